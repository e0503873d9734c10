section
-- ===== PART A: goes FIRST, ahead of the names: the tables' words, and 'selects' of the private methods out of them =====
/-- a private method of a class that the tables say can be made, by its rows of tables_1 -/
def lw_okq (q : MethodName × Nat) : Prop := (q.1.cls ≠ "java/lang/invoke/MethodHandle" ∧ q.1.cls ≠ "java/lang/invoke/VarHandle") ∧ Cond.instantiable q.1.cls q.2 ∈ tables_1 ∧ Cond.privateMethod q.1 ∈ tables_1 ∧ Cond.instanceMethod q.1 ∈ tables_1
theorem lw_p0 : lw_okq (⟨"TimesBench", "startBox", "(III)V"⟩, 12) := ⟨⟨by decide +kernel, by decide +kernel⟩, List.mem_of_getElem? (i := 15) (by decide +kernel), List.mem_of_getElem? (i := 287) (by decide +kernel), List.mem_of_getElem? (i := 288) (by decide +kernel)⟩
theorem lw_p1 : lw_okq (⟨"TimesBench", "emptyHands", "()V"⟩, 12) := ⟨⟨by decide +kernel, by decide +kernel⟩, List.mem_of_getElem? (i := 15) (by decide +kernel), List.mem_of_getElem? (i := 292) (by decide +kernel), List.mem_of_getElem? (i := 293) (by decide +kernel)⟩
theorem lw_p2 : lw_okq (⟨"TimesBench$Piece", "countMates", "(III)V"⟩, 7) := ⟨⟨by decide +kernel, by decide +kernel⟩, List.mem_of_getElem? (i := 56) (by decide +kernel), List.mem_of_getElem? (i := 392) (by decide +kernel), List.mem_of_getElem? (i := 393) (by decide +kernel)⟩
theorem lw_p3 : lw_okq (⟨"TimesBench$Piece", "appendPlain", "(II)V"⟩, 7) := ⟨⟨by decide +kernel, by decide +kernel⟩, List.mem_of_getElem? (i := 56) (by decide +kernel), List.mem_of_getElem? (i := 447) (by decide +kernel), List.mem_of_getElem? (i := 448) (by decide +kernel)⟩
theorem lw_p4 : lw_okq (⟨"TimesBench$Runner", "addAll", "(LTimesBench$Piece;)V"⟩, 2) := ⟨⟨by decide +kernel, by decide +kernel⟩, List.mem_of_getElem? (i := 124) (by decide +kernel), List.mem_of_getElem? (i := 461) (by decide +kernel), List.mem_of_getElem? (i := 462) (by decide +kernel)⟩
theorem lw_p5 : lw_okq (⟨"TimesBench$Runner", "addLine", "(LTimesBench$Piece;III)V"⟩, 2) := ⟨⟨by decide +kernel, by decide +kernel⟩, List.mem_of_getElem? (i := 124) (by decide +kernel), List.mem_of_getElem? (i := 468) (by decide +kernel), List.mem_of_getElem? (i := 469) (by decide +kernel)⟩
theorem lw_p6 : lw_okq (⟨"TimesBench$Runner", "filledIndex", "(II)I"⟩, 2) := ⟨⟨by decide +kernel, by decide +kernel⟩, List.mem_of_getElem? (i := 124) (by decide +kernel), List.mem_of_getElem? (i := 479) (by decide +kernel), List.mem_of_getElem? (i := 480) (by decide +kernel)⟩
theorem lw_p7 : lw_okq (⟨"TimesBench$Mover", "dropNoughts", "(LTimesBench$Piece;)Z"⟩, 1) := ⟨⟨by decide +kernel, by decide +kernel⟩, List.mem_of_getElem? (i := 103) (by decide +kernel), List.mem_of_getElem? (i := 495) (by decide +kernel), List.mem_of_getElem? (i := 496) (by decide +kernel)⟩
theorem lw_p8 : lw_okq (⟨"TimesBench$Mover", "joinAlike", "(LTimesBench$Piece;)Z"⟩, 1) := ⟨⟨by decide +kernel, by decide +kernel⟩, List.mem_of_getElem? (i := 103) (by decide +kernel), List.mem_of_getElem? (i := 501) (by decide +kernel), List.mem_of_getElem? (i := 502) (by decide +kernel)⟩
theorem lw_p9 : lw_okq (⟨"TimesBench$Mover", "waysWithMates", "(LTimesBench$Piece;I)I"⟩, 1) := ⟨⟨by decide +kernel, by decide +kernel⟩, List.mem_of_getElem? (i := 103) (by decide +kernel), List.mem_of_getElem? (i := 505) (by decide +kernel), List.mem_of_getElem? (i := 506) (by decide +kernel)⟩
theorem lw_p10 : lw_okq (⟨"TimesBench$Mover", "thirdBesideAlike", "(LTimesBench$Piece;II)I"⟩, 1) := ⟨⟨by decide +kernel, by decide +kernel⟩, List.mem_of_getElem? (i := 103) (by decide +kernel), List.mem_of_getElem? (i := 509) (by decide +kernel), List.mem_of_getElem? (i := 510) (by decide +kernel)⟩
theorem lw_p11 : lw_okq (⟨"TimesBench$Mover", "join", "(LTimesBench$Piece;III)V"⟩, 1) := ⟨⟨by decide +kernel, by decide +kernel⟩, List.mem_of_getElem? (i := 103) (by decide +kernel), List.mem_of_getElem? (i := 517) (by decide +kernel), List.mem_of_getElem? (i := 518) (by decide +kernel)⟩
theorem lw_p12 : lw_okq (⟨"TimesBench$Mover", "mateOf", "(LTimesBench$Piece;III)I"⟩, 1) := ⟨⟨by decide +kernel, by decide +kernel⟩, List.mem_of_getElem? (i := 103) (by decide +kernel), List.mem_of_getElem? (i := 551) (by decide +kernel), List.mem_of_getElem? (i := 552) (by decide +kernel)⟩
theorem lw_p13 : lw_okq (⟨"TimesBench", "takeSpare", "()V"⟩, 12) := ⟨⟨by decide +kernel, by decide +kernel⟩, List.mem_of_getElem? (i := 15) (by decide +kernel), List.mem_of_getElem? (i := 572) (by decide +kernel), List.mem_of_getElem? (i := 573) (by decide +kernel)⟩
theorem lw_p14 : lw_okq (⟨"TimesBench$Piece", "addIndexInFibers", "(IIII)V"⟩, 7) := ⟨⟨by decide +kernel, by decide +kernel⟩, List.mem_of_getElem? (i := 56) (by decide +kernel), List.mem_of_getElem? (i := 586) (by decide +kernel), List.mem_of_getElem? (i := 587) (by decide +kernel)⟩
theorem lw_p15 : lw_okq (⟨"TimesBench$Piece", "addedInRow", "(IIII)I"⟩, 7) := ⟨⟨by decide +kernel, by decide +kernel⟩, List.mem_of_getElem? (i := 56) (by decide +kernel), List.mem_of_getElem? (i := 590) (by decide +kernel), List.mem_of_getElem? (i := 591) (by decide +kernel)⟩
def lw_privs_1 : List (MethodName × Nat) := [(⟨"TimesBench", "startBox", "(III)V"⟩, 12), (⟨"TimesBench", "emptyHands", "()V"⟩, 12), (⟨"TimesBench$Piece", "countMates", "(III)V"⟩, 7), (⟨"TimesBench$Piece", "appendPlain", "(II)V"⟩, 7), (⟨"TimesBench$Runner", "addAll", "(LTimesBench$Piece;)V"⟩, 2), (⟨"TimesBench$Runner", "addLine", "(LTimesBench$Piece;III)V"⟩, 2), (⟨"TimesBench$Runner", "filledIndex", "(II)I"⟩, 2), (⟨"TimesBench$Mover", "dropNoughts", "(LTimesBench$Piece;)Z"⟩, 1), (⟨"TimesBench$Mover", "joinAlike", "(LTimesBench$Piece;)Z"⟩, 1), (⟨"TimesBench$Mover", "waysWithMates", "(LTimesBench$Piece;I)I"⟩, 1), (⟨"TimesBench$Mover", "thirdBesideAlike", "(LTimesBench$Piece;II)I"⟩, 1), (⟨"TimesBench$Mover", "join", "(LTimesBench$Piece;III)V"⟩, 1), (⟨"TimesBench$Mover", "mateOf", "(LTimesBench$Piece;III)I"⟩, 1), (⟨"TimesBench", "takeSpare", "()V"⟩, 12), (⟨"TimesBench$Piece", "addIndexInFibers", "(IIII)V"⟩, 7), (⟨"TimesBench$Piece", "addedInRow", "(IIII)I"⟩, 7)]
theorem lw_r1 : ∀ q ∈ lw_privs_1, lw_okq q := List.forall_mem_cons.mpr ⟨lw_p0, List.forall_mem_cons.mpr ⟨lw_p1, List.forall_mem_cons.mpr ⟨lw_p2, List.forall_mem_cons.mpr ⟨lw_p3, List.forall_mem_cons.mpr ⟨lw_p4, List.forall_mem_cons.mpr ⟨lw_p5, List.forall_mem_cons.mpr ⟨lw_p6, List.forall_mem_cons.mpr ⟨lw_p7, List.forall_mem_cons.mpr ⟨lw_p8, List.forall_mem_cons.mpr ⟨lw_p9, List.forall_mem_cons.mpr ⟨lw_p10, List.forall_mem_cons.mpr ⟨lw_p11, List.forall_mem_cons.mpr ⟨lw_p12, List.forall_mem_cons.mpr ⟨lw_p13, List.forall_mem_cons.mpr ⟨lw_p14, List.forall_mem_cons.mpr ⟨lw_p15, fun _ h => absurd h List.not_mem_nil⟩⟩⟩⟩⟩⟩⟩⟩⟩⟩⟩⟩⟩⟩⟩⟩
theorem lw_p16 : lw_okq (⟨"TimesBench", "rankBy", "(I)I"⟩, 12) := ⟨⟨by decide +kernel, by decide +kernel⟩, List.mem_of_getElem? (i := 15) (by decide +kernel), List.mem_of_getElem? (i := 598) (by decide +kernel), List.mem_of_getElem? (i := 599) (by decide +kernel)⟩
theorem lw_p17 : lw_okq (⟨"TimesBench$Seeker", "takeSlices", "(LTimesBench$Piece;)V"⟩, 11) := ⟨⟨by decide +kernel, by decide +kernel⟩, List.mem_of_getElem? (i := 161) (by decide +kernel), List.mem_of_getElem? (i := 640) (by decide +kernel), List.mem_of_getElem? (i := 641) (by decide +kernel)⟩
theorem lw_p18 : lw_okq (⟨"TimesBench$Seeker", "sliceOf", "(LTimesBench$Piece;I)I"⟩, 11) := ⟨⟨by decide +kernel, by decide +kernel⟩, List.mem_of_getElem? (i := 161) (by decide +kernel), List.mem_of_getElem? (i := 645) (by decide +kernel), List.mem_of_getElem? (i := 646) (by decide +kernel)⟩
theorem lw_p19 : lw_okq (⟨"TimesBench$Seeker", "listPairs", "(II)V"⟩, 11) := ⟨⟨by decide +kernel, by decide +kernel⟩, List.mem_of_getElem? (i := 161) (by decide +kernel), List.mem_of_getElem? (i := 651) (by decide +kernel), List.mem_of_getElem? (i := 652) (by decide +kernel)⟩
theorem lw_p20 : lw_okq (⟨"TimesBench$Seeker", "listPairsOf", "(II)V"⟩, 11) := ⟨⟨by decide +kernel, by decide +kernel⟩, List.mem_of_getElem? (i := 161) (by decide +kernel), List.mem_of_getElem? (i := 656) (by decide +kernel), List.mem_of_getElem? (i := 657) (by decide +kernel)⟩
theorem lw_p21 : lw_okq (⟨"TimesBench$Seeker", "pickFrom", "(III)Z"⟩, 11) := ⟨⟨by decide +kernel, by decide +kernel⟩, List.mem_of_getElem? (i := 161) (by decide +kernel), List.mem_of_getElem? (i := 665) (by decide +kernel), List.mem_of_getElem? (i := 666) (by decide +kernel)⟩
theorem lw_p22 : lw_okq (⟨"TimesBench$Seeker", "meet", "(II)V"⟩, 11) := ⟨⟨by decide +kernel, by decide +kernel⟩, List.mem_of_getElem? (i := 161) (by decide +kernel), List.mem_of_getElem? (i := 669) (by decide +kernel), List.mem_of_getElem? (i := 670) (by decide +kernel)⟩
theorem lw_p23 : lw_okq (⟨"TimesBench$Sharer", "load", "(LTimesBench$Piece;I)V"⟩, 10) := ⟨⟨by decide +kernel, by decide +kernel⟩, List.mem_of_getElem? (i := 205) (by decide +kernel), List.mem_of_getElem? (i := 723) (by decide +kernel), List.mem_of_getElem? (i := 724) (by decide +kernel)⟩
theorem lw_p24 : lw_okq (⟨"TimesBench$Sharer", "append", "(III)V"⟩, 10) := ⟨⟨by decide +kernel, by decide +kernel⟩, List.mem_of_getElem? (i := 205) (by decide +kernel), List.mem_of_getElem? (i := 729) (by decide +kernel), List.mem_of_getElem? (i := 730) (by decide +kernel)⟩
theorem lw_p25 : lw_okq (⟨"TimesBench$Sharer", "sumsOfLists", "()I"⟩, 10) := ⟨⟨by decide +kernel, by decide +kernel⟩, List.mem_of_getElem? (i := 205) (by decide +kernel), List.mem_of_getElem? (i := 733) (by decide +kernel), List.mem_of_getElem? (i := 734) (by decide +kernel)⟩
theorem lw_p26 : lw_okq (⟨"TimesBench$Sharer", "seekBest", "()Z"⟩, 10) := ⟨⟨by decide +kernel, by decide +kernel⟩, List.mem_of_getElem? (i := 205) (by decide +kernel), List.mem_of_getElem? (i := 742) (by decide +kernel), List.mem_of_getElem? (i := 743) (by decide +kernel)⟩
theorem lw_p27 : lw_okq (⟨"TimesBench$Sharer", "indexOf", "(II)I"⟩, 10) := ⟨⟨by decide +kernel, by decide +kernel⟩, List.mem_of_getElem? (i := 205) (by decide +kernel), List.mem_of_getElem? (i := 752) (by decide +kernel), List.mem_of_getElem? (i := 753) (by decide +kernel)⟩
theorem lw_p28 : lw_okq (⟨"TimesBench$Sharer", "tallyBehind", "(II)V"⟩, 10) := ⟨⟨by decide +kernel, by decide +kernel⟩, List.mem_of_getElem? (i := 205) (by decide +kernel), List.mem_of_getElem? (i := 756) (by decide +kernel), List.mem_of_getElem? (i := 757) (by decide +kernel)⟩
theorem lw_p29 : lw_okq (⟨"TimesBench$Sharer", "keyOf", "(II)I"⟩, 10) := ⟨⟨by decide +kernel, by decide +kernel⟩, List.mem_of_getElem? (i := 205) (by decide +kernel), List.mem_of_getElem? (i := 760) (by decide +kernel), List.mem_of_getElem? (i := 761) (by decide +kernel)⟩
theorem lw_p30 : lw_okq (⟨"TimesBench$Sharer", "takeBest", "()V"⟩, 10) := ⟨⟨by decide +kernel, by decide +kernel⟩, List.mem_of_getElem? (i := 205) (by decide +kernel), List.mem_of_getElem? (i := 764) (by decide +kernel), List.mem_of_getElem? (i := 765) (by decide +kernel)⟩
theorem lw_p31 : lw_okq (⟨"TimesBench$Sharer", "cut", "(II)V"⟩, 10) := ⟨⟨by decide +kernel, by decide +kernel⟩, List.mem_of_getElem? (i := 205) (by decide +kernel), List.mem_of_getElem? (i := 768) (by decide +kernel), List.mem_of_getElem? (i := 769) (by decide +kernel)⟩
def lw_privs_2 : List (MethodName × Nat) := [(⟨"TimesBench", "rankBy", "(I)I"⟩, 12), (⟨"TimesBench$Seeker", "takeSlices", "(LTimesBench$Piece;)V"⟩, 11), (⟨"TimesBench$Seeker", "sliceOf", "(LTimesBench$Piece;I)I"⟩, 11), (⟨"TimesBench$Seeker", "listPairs", "(II)V"⟩, 11), (⟨"TimesBench$Seeker", "listPairsOf", "(II)V"⟩, 11), (⟨"TimesBench$Seeker", "pickFrom", "(III)Z"⟩, 11), (⟨"TimesBench$Seeker", "meet", "(II)V"⟩, 11), (⟨"TimesBench$Sharer", "load", "(LTimesBench$Piece;I)V"⟩, 10), (⟨"TimesBench$Sharer", "append", "(III)V"⟩, 10), (⟨"TimesBench$Sharer", "sumsOfLists", "()I"⟩, 10), (⟨"TimesBench$Sharer", "seekBest", "()Z"⟩, 10), (⟨"TimesBench$Sharer", "indexOf", "(II)I"⟩, 10), (⟨"TimesBench$Sharer", "tallyBehind", "(II)V"⟩, 10), (⟨"TimesBench$Sharer", "keyOf", "(II)I"⟩, 10), (⟨"TimesBench$Sharer", "takeBest", "()V"⟩, 10), (⟨"TimesBench$Sharer", "cut", "(II)V"⟩, 10)]
theorem lw_r2 : ∀ q ∈ lw_privs_2, lw_okq q := List.forall_mem_cons.mpr ⟨lw_p16, List.forall_mem_cons.mpr ⟨lw_p17, List.forall_mem_cons.mpr ⟨lw_p18, List.forall_mem_cons.mpr ⟨lw_p19, List.forall_mem_cons.mpr ⟨lw_p20, List.forall_mem_cons.mpr ⟨lw_p21, List.forall_mem_cons.mpr ⟨lw_p22, List.forall_mem_cons.mpr ⟨lw_p23, List.forall_mem_cons.mpr ⟨lw_p24, List.forall_mem_cons.mpr ⟨lw_p25, List.forall_mem_cons.mpr ⟨lw_p26, List.forall_mem_cons.mpr ⟨lw_p27, List.forall_mem_cons.mpr ⟨lw_p28, List.forall_mem_cons.mpr ⟨lw_p29, List.forall_mem_cons.mpr ⟨lw_p30, List.forall_mem_cons.mpr ⟨lw_p31, fun _ h => absurd h List.not_mem_nil⟩⟩⟩⟩⟩⟩⟩⟩⟩⟩⟩⟩⟩⟩⟩⟩
theorem lw_p32 : lw_okq (⟨"TimesBench", "faultOfPlace", "(I)I"⟩, 12) := ⟨⟨by decide +kernel, by decide +kernel⟩, List.mem_of_getElem? (i := 15) (by decide +kernel), List.mem_of_getElem? (i := 788) (by decide +kernel), List.mem_of_getElem? (i := 789) (by decide +kernel)⟩
theorem lw_p33 : lw_okq (⟨"TimesBench$Joiner", "fillWithin", "(LTimesBench$Piece;IILTimesBench$Piece;LTimesBench$Piece;)V"⟩, 1) := ⟨⟨by decide +kernel, by decide +kernel⟩, List.mem_of_getElem? (i := 114) (by decide +kernel), List.mem_of_getElem? (i := 809) (by decide +kernel), List.mem_of_getElem? (i := 810) (by decide +kernel)⟩
theorem lw_p34 : lw_okq (⟨"TimesBench$Joiner", "rowWithin", "(LTimesBench$Piece;ILTimesBench$Piece;II)I"⟩, 1) := ⟨⟨by decide +kernel, by decide +kernel⟩, List.mem_of_getElem? (i := 114) (by decide +kernel), List.mem_of_getElem? (i := 814) (by decide +kernel), List.mem_of_getElem? (i := 815) (by decide +kernel)⟩
theorem lw_p35 : lw_okq (⟨"TimesBenchModel", "fresh", "(III)V"⟩, 28) := ⟨⟨by decide +kernel, by decide +kernel⟩, List.mem_of_getElem? (i := 818) (by decide +kernel), List.mem_of_getElem? (i := 824) (by decide +kernel), List.mem_of_getElem? (i := 825) (by decide +kernel)⟩
theorem lw_p36 : lw_okq (⟨"TimesBenchModel", "emptyHand", "()V"⟩, 28) := ⟨⟨by decide +kernel, by decide +kernel⟩, List.mem_of_getElem? (i := 818) (by decide +kernel), List.mem_of_getElem? (i := 828) (by decide +kernel), List.mem_of_getElem? (i := 829) (by decide +kernel)⟩
theorem lw_p37 : lw_okq (⟨"TimesBenchModel", "isPlace", "(III)Z"⟩, 28) := ⟨⟨by decide +kernel, by decide +kernel⟩, List.mem_of_getElem? (i := 818) (by decide +kernel), List.mem_of_getElem? (i := 944) (by decide +kernel), List.mem_of_getElem? (i := 945) (by decide +kernel)⟩
theorem lw_p38 : lw_okq (⟨"TimesBenchModel", "filled", "()I"⟩, 28) := ⟨⟨by decide +kernel, by decide +kernel⟩, List.mem_of_getElem? (i := 818) (by decide +kernel), List.mem_of_getElem? (i := 956) (by decide +kernel), List.mem_of_getElem? (i := 957) (by decide +kernel)⟩
theorem lw_p39 : lw_okq (⟨"TimesBenchModel", "moves", "()I"⟩, 28) := ⟨⟨by decide +kernel, by decide +kernel⟩, List.mem_of_getElem? (i := 818) (by decide +kernel), List.mem_of_getElem? (i := 960) (by decide +kernel), List.mem_of_getElem? (i := 961) (by decide +kernel)⟩
theorem lw_p40 : lw_okq (⟨"TimesBenchModel", "factor", "(III)I"⟩, 28) := ⟨⟨by decide +kernel, by decide +kernel⟩, List.mem_of_getElem? (i := 818) (by decide +kernel), List.mem_of_getElem? (i := 964) (by decide +kernel), List.mem_of_getElem? (i := 965) (by decide +kernel)⟩
theorem lw_p41 : lw_okq (⟨"TimesBenchModel", "inverse", "(I)I"⟩, 28) := ⟨⟨by decide +kernel, by decide +kernel⟩, List.mem_of_getElem? (i := 818) (by decide +kernel), List.mem_of_getElem? (i := 968) (by decide +kernel), List.mem_of_getElem? (i := 969) (by decide +kernel)⟩
theorem lw_p42 : lw_okq (⟨"TimesBenchModel", "isRow", "(II)Z"⟩, 28) := ⟨⟨by decide +kernel, by decide +kernel⟩, List.mem_of_getElem? (i := 818) (by decide +kernel), List.mem_of_getElem? (i := 976) (by decide +kernel), List.mem_of_getElem? (i := 977) (by decide +kernel)⟩
theorem lw_p43 : lw_okq (⟨"TimesBenchModel", "rowsOf", "(I)I"⟩, 28) := ⟨⟨by decide +kernel, by decide +kernel⟩, List.mem_of_getElem? (i := 818) (by decide +kernel), List.mem_of_getElem? (i := 980) (by decide +kernel), List.mem_of_getElem? (i := 981) (by decide +kernel)⟩
theorem lw_p44 : lw_okq (⟨"TimesBenchModel", "putRow", "(III)V"⟩, 28) := ⟨⟨by decide +kernel, by decide +kernel⟩, List.mem_of_getElem? (i := 818) (by decide +kernel), List.mem_of_getElem? (i := 984) (by decide +kernel), List.mem_of_getElem? (i := 985) (by decide +kernel)⟩
theorem lw_p45 : lw_okq (⟨"TimesBenchModel", "isTime", "(I)Z"⟩, 28) := ⟨⟨by decide +kernel, by decide +kernel⟩, List.mem_of_getElem? (i := 818) (by decide +kernel), List.mem_of_getElem? (i := 992) (by decide +kernel), List.mem_of_getElem? (i := 993) (by decide +kernel)⟩
theorem lw_p46 : lw_okq (⟨"TimesBenchModel", "getRow", "(II)I"⟩, 28) := ⟨⟨by decide +kernel, by decide +kernel⟩, List.mem_of_getElem? (i := 818) (by decide +kernel), List.mem_of_getElem? (i := 997) (by decide +kernel), List.mem_of_getElem? (i := 998) (by decide +kernel)⟩
theorem lw_p47 : lw_okq (⟨"TimesBenchModel", "remove", "(I)V"⟩, 28) := ⟨⟨by decide +kernel, by decide +kernel⟩, List.mem_of_getElem? (i := 818) (by decide +kernel), List.mem_of_getElem? (i := 1009) (by decide +kernel), List.mem_of_getElem? (i := 1010) (by decide +kernel)⟩
def lw_privs_3 : List (MethodName × Nat) := [(⟨"TimesBench", "faultOfPlace", "(I)I"⟩, 12), (⟨"TimesBench$Joiner", "fillWithin", "(LTimesBench$Piece;IILTimesBench$Piece;LTimesBench$Piece;)V"⟩, 1), (⟨"TimesBench$Joiner", "rowWithin", "(LTimesBench$Piece;ILTimesBench$Piece;II)I"⟩, 1), (⟨"TimesBenchModel", "fresh", "(III)V"⟩, 28), (⟨"TimesBenchModel", "emptyHand", "()V"⟩, 28), (⟨"TimesBenchModel", "isPlace", "(III)Z"⟩, 28), (⟨"TimesBenchModel", "filled", "()I"⟩, 28), (⟨"TimesBenchModel", "moves", "()I"⟩, 28), (⟨"TimesBenchModel", "factor", "(III)I"⟩, 28), (⟨"TimesBenchModel", "inverse", "(I)I"⟩, 28), (⟨"TimesBenchModel", "isRow", "(II)Z"⟩, 28), (⟨"TimesBenchModel", "rowsOf", "(I)I"⟩, 28), (⟨"TimesBenchModel", "putRow", "(III)V"⟩, 28), (⟨"TimesBenchModel", "isTime", "(I)Z"⟩, 28), (⟨"TimesBenchModel", "getRow", "(II)I"⟩, 28), (⟨"TimesBenchModel", "remove", "(I)V"⟩, 28)]
theorem lw_r3 : ∀ q ∈ lw_privs_3, lw_okq q := List.forall_mem_cons.mpr ⟨lw_p32, List.forall_mem_cons.mpr ⟨lw_p33, List.forall_mem_cons.mpr ⟨lw_p34, List.forall_mem_cons.mpr ⟨lw_p35, List.forall_mem_cons.mpr ⟨lw_p36, List.forall_mem_cons.mpr ⟨lw_p37, List.forall_mem_cons.mpr ⟨lw_p38, List.forall_mem_cons.mpr ⟨lw_p39, List.forall_mem_cons.mpr ⟨lw_p40, List.forall_mem_cons.mpr ⟨lw_p41, List.forall_mem_cons.mpr ⟨lw_p42, List.forall_mem_cons.mpr ⟨lw_p43, List.forall_mem_cons.mpr ⟨lw_p44, List.forall_mem_cons.mpr ⟨lw_p45, List.forall_mem_cons.mpr ⟨lw_p46, List.forall_mem_cons.mpr ⟨lw_p47, fun _ h => absurd h List.not_mem_nil⟩⟩⟩⟩⟩⟩⟩⟩⟩⟩⟩⟩⟩⟩⟩⟩
theorem lw_p48 : lw_okq (⟨"TimesBenchModel", "added", "(III)I"⟩, 28) := ⟨⟨by decide +kernel, by decide +kernel⟩, List.mem_of_getElem? (i := 818) (by decide +kernel), List.mem_of_getElem? (i := 1021) (by decide +kernel), List.mem_of_getElem? (i := 1022) (by decide +kernel)⟩
theorem lw_p49 : lw_okq (⟨"TimesBenchModel", "lessenOnce", "()Z"⟩, 28) := ⟨⟨by decide +kernel, by decide +kernel⟩, List.mem_of_getElem? (i := 818) (by decide +kernel), List.mem_of_getElem? (i := 1034) (by decide +kernel), List.mem_of_getElem? (i := 1035) (by decide +kernel)⟩
theorem lw_p50 : lw_okq (⟨"TimesBenchModel", "dropNought", "()Z"⟩, 28) := ⟨⟨by decide +kernel, by decide +kernel⟩, List.mem_of_getElem? (i := 818) (by decide +kernel), List.mem_of_getElem? (i := 1038) (by decide +kernel), List.mem_of_getElem? (i := 1039) (by decide +kernel)⟩
theorem lw_p51 : lw_okq (⟨"TimesBenchModel", "isNought", "(II)Z"⟩, 28) := ⟨⟨by decide +kernel, by decide +kernel⟩, List.mem_of_getElem? (i := 818) (by decide +kernel), List.mem_of_getElem? (i := 1042) (by decide +kernel), List.mem_of_getElem? (i := 1043) (by decide +kernel)⟩
theorem lw_p52 : lw_okq (⟨"TimesBenchModel", "bringTogether", "(II)Z"⟩, 28) := ⟨⟨by decide +kernel, by decide +kernel⟩, List.mem_of_getElem? (i := 818) (by decide +kernel), List.mem_of_getElem? (i := 1046) (by decide +kernel), List.mem_of_getElem? (i := 1047) (by decide +kernel)⟩
theorem lw_p53 : lw_okq (⟨"TimesBenchModel", "addRow", "(IIIII)V"⟩, 28) := ⟨⟨by decide +kernel, by decide +kernel⟩, List.mem_of_getElem? (i := 818) (by decide +kernel), List.mem_of_getElem? (i := 1050) (by decide +kernel), List.mem_of_getElem? (i := 1051) (by decide +kernel)⟩
theorem lw_p54 : lw_okq (⟨"TimesBenchModel", "doMove", "(III)Z"⟩, 28) := ⟨⟨by decide +kernel, by decide +kernel⟩, List.mem_of_getElem? (i := 818) (by decide +kernel), List.mem_of_getElem? (i := 1058) (by decide +kernel), List.mem_of_getElem? (i := 1059) (by decide +kernel)⟩
theorem lw_p55 : lw_okq (⟨"TimesBenchModel", "moveOf", "(I)V"⟩, 28) := ⟨⟨by decide +kernel, by decide +kernel⟩, List.mem_of_getElem? (i := 818) (by decide +kernel), List.mem_of_getElem? (i := 1068) (by decide +kernel), List.mem_of_getElem? (i := 1069) (by decide +kernel)⟩
theorem lw_p56 : lw_okq (⟨"TimesBenchModel", "rankBy", "(I)I"⟩, 28) := ⟨⟨by decide +kernel, by decide +kernel⟩, List.mem_of_getElem? (i := 818) (by decide +kernel), List.mem_of_getElem? (i := 1086) (by decide +kernel), List.mem_of_getElem? (i := 1087) (by decide +kernel)⟩
theorem lw_p57 : lw_okq (⟨"TimesBenchModel", "rankOfLines", "(II)I"⟩, 28) := ⟨⟨by decide +kernel, by decide +kernel⟩, List.mem_of_getElem? (i := 818) (by decide +kernel), List.mem_of_getElem? (i := 1090) (by decide +kernel), List.mem_of_getElem? (i := 1091) (by decide +kernel)⟩
theorem lw_p58 : lw_okq (⟨"TimesBenchModel", "takeLine", "(IIIII)V"⟩, 28) := ⟨⟨by decide +kernel, by decide +kernel⟩, List.mem_of_getElem? (i := 818) (by decide +kernel), List.mem_of_getElem? (i := 1094) (by decide +kernel), List.mem_of_getElem? (i := 1095) (by decide +kernel)⟩
theorem lw_p59 : lw_okq (⟨"TimesBenchModel", "findLeast", "()I"⟩, 28) := ⟨⟨by decide +kernel, by decide +kernel⟩, List.mem_of_getElem? (i := 818) (by decide +kernel), List.mem_of_getElem? (i := 1103) (by decide +kernel), List.mem_of_getElem? (i := 1104) (by decide +kernel)⟩
theorem lw_p60 : lw_okq (⟨"TimesBenchModel", "ones", "(I)J"⟩, 28) := ⟨⟨by decide +kernel, by decide +kernel⟩, List.mem_of_getElem? (i := 818) (by decide +kernel), List.mem_of_getElem? (i := 1107) (by decide +kernel), List.mem_of_getElem? (i := 1108) (by decide +kernel)⟩
theorem lw_p61 : lw_okq (⟨"TimesBenchModel", "findPairs", "()V"⟩, 28) := ⟨⟨by decide +kernel, by decide +kernel⟩, List.mem_of_getElem? (i := 818) (by decide +kernel), List.mem_of_getElem? (i := 1112) (by decide +kernel), List.mem_of_getElem? (i := 1113) (by decide +kernel)⟩
theorem lw_p62 : lw_okq (⟨"TimesBenchModel", "isOne", "(I)Z"⟩, 28) := ⟨⟨by decide +kernel, by decide +kernel⟩, List.mem_of_getElem? (i := 818) (by decide +kernel), List.mem_of_getElem? (i := 1116) (by decide +kernel), List.mem_of_getElem? (i := 1117) (by decide +kernel)⟩
theorem lw_p63 : lw_okq (⟨"TimesBenchModel", "isDoneBy", "(I)Z"⟩, 28) := ⟨⟨by decide +kernel, by decide +kernel⟩, List.mem_of_getElem? (i := 818) (by decide +kernel), List.mem_of_getElem? (i := 1120) (by decide +kernel), List.mem_of_getElem? (i := 1121) (by decide +kernel)⟩
def lw_privs_4 : List (MethodName × Nat) := [(⟨"TimesBenchModel", "added", "(III)I"⟩, 28), (⟨"TimesBenchModel", "lessenOnce", "()Z"⟩, 28), (⟨"TimesBenchModel", "dropNought", "()Z"⟩, 28), (⟨"TimesBenchModel", "isNought", "(II)Z"⟩, 28), (⟨"TimesBenchModel", "bringTogether", "(II)Z"⟩, 28), (⟨"TimesBenchModel", "addRow", "(IIIII)V"⟩, 28), (⟨"TimesBenchModel", "doMove", "(III)Z"⟩, 28), (⟨"TimesBenchModel", "moveOf", "(I)V"⟩, 28), (⟨"TimesBenchModel", "rankBy", "(I)I"⟩, 28), (⟨"TimesBenchModel", "rankOfLines", "(II)I"⟩, 28), (⟨"TimesBenchModel", "takeLine", "(IIIII)V"⟩, 28), (⟨"TimesBenchModel", "findLeast", "()I"⟩, 28), (⟨"TimesBenchModel", "ones", "(I)J"⟩, 28), (⟨"TimesBenchModel", "findPairs", "()V"⟩, 28), (⟨"TimesBenchModel", "isOne", "(I)Z"⟩, 28), (⟨"TimesBenchModel", "isDoneBy", "(I)Z"⟩, 28)]
theorem lw_r4 : ∀ q ∈ lw_privs_4, lw_okq q := List.forall_mem_cons.mpr ⟨lw_p48, List.forall_mem_cons.mpr ⟨lw_p49, List.forall_mem_cons.mpr ⟨lw_p50, List.forall_mem_cons.mpr ⟨lw_p51, List.forall_mem_cons.mpr ⟨lw_p52, List.forall_mem_cons.mpr ⟨lw_p53, List.forall_mem_cons.mpr ⟨lw_p54, List.forall_mem_cons.mpr ⟨lw_p55, List.forall_mem_cons.mpr ⟨lw_p56, List.forall_mem_cons.mpr ⟨lw_p57, List.forall_mem_cons.mpr ⟨lw_p58, List.forall_mem_cons.mpr ⟨lw_p59, List.forall_mem_cons.mpr ⟨lw_p60, List.forall_mem_cons.mpr ⟨lw_p61, List.forall_mem_cons.mpr ⟨lw_p62, List.forall_mem_cons.mpr ⟨lw_p63, fun _ h => absurd h List.not_mem_nil⟩⟩⟩⟩⟩⟩⟩⟩⟩⟩⟩⟩⟩⟩⟩⟩
theorem lw_p64 : lw_okq (⟨"TimesBenchModel", "rankLeft", "(I)I"⟩, 28) := ⟨⟨by decide +kernel, by decide +kernel⟩, List.mem_of_getElem? (i := 818) (by decide +kernel), List.mem_of_getElem? (i := 1124) (by decide +kernel), List.mem_of_getElem? (i := 1125) (by decide +kernel)⟩
theorem lw_p65 : lw_okq (⟨"TimesBenchModel", "lay", "(I)Z"⟩, 28) := ⟨⟨by decide +kernel, by decide +kernel⟩, List.mem_of_getElem? (i := 818) (by decide +kernel), List.mem_of_getElem? (i := 1128) (by decide +kernel), List.mem_of_getElem? (i := 1129) (by decide +kernel)⟩
theorem lw_p66 : lw_okq (⟨"TimesBenchModel", "digit", "(II)I"⟩, 28) := ⟨⟨by decide +kernel, by decide +kernel⟩, List.mem_of_getElem? (i := 818) (by decide +kernel), List.mem_of_getElem? (i := 1132) (by decide +kernel), List.mem_of_getElem? (i := 1133) (by decide +kernel)⟩
theorem lw_p67 : lw_okq (⟨"TimesBenchModel", "sumTo", "(II)V"⟩, 28) := ⟨⟨by decide +kernel, by decide +kernel⟩, List.mem_of_getElem? (i := 818) (by decide +kernel), List.mem_of_getElem? (i := 1140) (by decide +kernel), List.mem_of_getElem? (i := 1141) (by decide +kernel)⟩
theorem lw_p68 : lw_okq (⟨"TimesBenchModel", "byBox", "(I)I"⟩, 28) := ⟨⟨by decide +kernel, by decide +kernel⟩, List.mem_of_getElem? (i := 818) (by decide +kernel), List.mem_of_getElem? (i := 1152) (by decide +kernel), List.mem_of_getElem? (i := 1153) (by decide +kernel)⟩
theorem lw_p69 : lw_okq (⟨"TimesBenchModel", "byScheme", "(I)I"⟩, 28) := ⟨⟨by decide +kernel, by decide +kernel⟩, List.mem_of_getElem? (i := 818) (by decide +kernel), List.mem_of_getElem? (i := 1156) (by decide +kernel), List.mem_of_getElem? (i := 1157) (by decide +kernel)⟩
theorem lw_p70 : lw_okq (⟨"TimesBenchModel", "share", "()Z"⟩, 28) := ⟨⟨by decide +kernel, by decide +kernel⟩, List.mem_of_getElem? (i := 818) (by decide +kernel), List.mem_of_getElem? (i := 1164) (by decide +kernel), List.mem_of_getElem? (i := 1165) (by decide +kernel)⟩
theorem lw_p71 : lw_okq (⟨"TimesBenchModel", "rowsWith", "(III)I"⟩, 28) := ⟨⟨by decide +kernel, by decide +kernel⟩, List.mem_of_getElem? (i := 818) (by decide +kernel), List.mem_of_getElem? (i := 1168) (by decide +kernel), List.mem_of_getElem? (i := 1169) (by decide +kernel)⟩
theorem lw_p72 : lw_okq (⟨"TimesBenchModel", "hasBoth", "(IIII)Z"⟩, 28) := ⟨⟨by decide +kernel, by decide +kernel⟩, List.mem_of_getElem? (i := 818) (by decide +kernel), List.mem_of_getElem? (i := 1172) (by decide +kernel), List.mem_of_getElem? (i := 1173) (by decide +kernel)⟩
theorem lw_p73 : lw_okq (⟨"TimesBenchModel", "plainSums", "(I)I"⟩, 28) := ⟨⟨by decide +kernel, by decide +kernel⟩, List.mem_of_getElem? (i := 818) (by decide +kernel), List.mem_of_getElem? (i := 1176) (by decide +kernel), List.mem_of_getElem? (i := 1177) (by decide +kernel)⟩
theorem lw_p74 : lw_okq (⟨"TimesBenchModel", "productAt", "(IIIII)I"⟩, 28) := ⟨⟨by decide +kernel, by decide +kernel⟩, List.mem_of_getElem? (i := 818) (by decide +kernel), List.mem_of_getElem? (i := 1199) (by decide +kernel), List.mem_of_getElem? (i := 1200) (by decide +kernel)⟩
def lw_privs_5 : List (MethodName × Nat) := [(⟨"TimesBenchModel", "rankLeft", "(I)I"⟩, 28), (⟨"TimesBenchModel", "lay", "(I)Z"⟩, 28), (⟨"TimesBenchModel", "digit", "(II)I"⟩, 28), (⟨"TimesBenchModel", "sumTo", "(II)V"⟩, 28), (⟨"TimesBenchModel", "byBox", "(I)I"⟩, 28), (⟨"TimesBenchModel", "byScheme", "(I)I"⟩, 28), (⟨"TimesBenchModel", "share", "()Z"⟩, 28), (⟨"TimesBenchModel", "rowsWith", "(III)I"⟩, 28), (⟨"TimesBenchModel", "hasBoth", "(IIII)Z"⟩, 28), (⟨"TimesBenchModel", "plainSums", "(I)I"⟩, 28), (⟨"TimesBenchModel", "productAt", "(IIIII)I"⟩, 28)]
theorem lw_r5 : ∀ q ∈ lw_privs_5, lw_okq q := List.forall_mem_cons.mpr ⟨lw_p64, List.forall_mem_cons.mpr ⟨lw_p65, List.forall_mem_cons.mpr ⟨lw_p66, List.forall_mem_cons.mpr ⟨lw_p67, List.forall_mem_cons.mpr ⟨lw_p68, List.forall_mem_cons.mpr ⟨lw_p69, List.forall_mem_cons.mpr ⟨lw_p70, List.forall_mem_cons.mpr ⟨lw_p71, List.forall_mem_cons.mpr ⟨lw_p72, List.forall_mem_cons.mpr ⟨lw_p73, List.forall_mem_cons.mpr ⟨lw_p74, fun _ h => absurd h List.not_mem_nil⟩⟩⟩⟩⟩⟩⟩⟩⟩⟩⟩
def lw_privs : List (MethodName × Nat) := lw_privs_1 ++ (lw_privs_2 ++ (lw_privs_3 ++ (lw_privs_4 ++ (lw_privs_5))))
def lw_tbl : List Cond := k2_sels lw_privs ++ tables_1
theorem lw_privs_ok : ∀ q ∈ lw_privs, lw_okq q := by
  show ∀ q ∈ lw_privs_1 ++ (lw_privs_2 ++ (lw_privs_3 ++ (lw_privs_4 ++ (lw_privs_5)))), lw_okq q
  exact List.forall_mem_append.mpr ⟨lw_r1, List.forall_mem_append.mpr ⟨lw_r2, List.forall_mem_append.mpr ⟨lw_r3, List.forall_mem_append.mpr ⟨lw_r4, lw_r5⟩⟩⟩⟩
end
section
def RX0 : String := "TimesBench$Basis"
def TX0 : u_T := fun k => match k with
  | 0 => ("TimesBench$Basis", "ground", "LTimesBench$Ground;", true)
  | 1 => ("TimesBench$Basis", "vector", "[I", true)
  | 2 => ("TimesBench$Basis", "pivot", "[I", true)
  | 3 => ("TimesBench$Basis", "blend", "[I", true)
  | _ => ("TimesBench$Basis", "count", "I", false)
def tyX0 : Nat → FieldType := fun k => match k with
  | 0 => .object "TimesBench$Ground"
  | 1 => .array .int
  | 2 => .array .int
  | 3 => .array .int
  | _ => .int
abbrev wsX00 : List Cond := u_ws RX0 TX0 5
theorem nmX0 : ∀ a, a < 5 → ∀ b, b < 5 → a ≠ b → (TX0 a).2.1 ≠ (TX0 b).2.1 := by decide +kernel
theorem tyX0_ok : ∀ k, k < 5 → parseFieldDescriptor (TX0 k).2.2.1 = some (tyX0 k) := by decide +kernel
abbrev cX0_init : ByteArray := prog_2_method_1_code
def yX0_init : MethodName := ⟨RX0, "<init>", "(LTimesBench$Ground;)V"⟩
abbrev cX0_clear : ByteArray := prog_2_method_2_code
def yX0_clear : MethodName := ⟨RX0, "clear", "()V"⟩
abbrev cX0_reduce : ByteArray := prog_2_method_3_code
def yX0_reduce : MethodName := ⟨RX0, "reduce", "(I)I"⟩
abbrev cX0_blendOf : ByteArray := prog_2_method_4_code
def yX0_blendOf : MethodName := ⟨RX0, "blendOf", "(I)I"⟩
abbrev cX0_add : ByteArray := prog_2_method_5_code
def yX0_add : MethodName := ⟨RX0, "add", "(I)Z"⟩
abbrev cX0_removeLast : ByteArray := prog_2_method_6_code
def yX0_removeLast : MethodName := ⟨RX0, "removeLast", "()V"⟩
def RX1 : String := "TimesBench$Ground"
def TX1 : u_T := fun k => match k with
  | 0 => ("TimesBench$Ground", "p", "I", false)
  | 1 => ("TimesBench$Ground", "power", "[I", true)
  | _ => ("TimesBench$Ground", "inverse", "[I", true)
def tyX1 : Nat → FieldType := fun k => match k with
  | 0 => .int
  | 1 => .array .int
  | _ => .array .int
abbrev wsX10 : List Cond := u_ws RX1 TX1 3
theorem nmX1 : ∀ a, a < 3 → ∀ b, b < 3 → a ≠ b → (TX1 a).2.1 ≠ (TX1 b).2.1 := by decide +kernel
theorem tyX1_ok : ∀ k, k < 3 → parseFieldDescriptor (TX1 k).2.2.1 = some (tyX1 k) := by decide +kernel
abbrev cX1_init : ByteArray := prog_3_method_1_code
def yX1_init : MethodName := ⟨RX1, "<init>", "()V"⟩
abbrev cX1_canBe : ByteArray := prog_3_method_2_code
def yX1_canBe : MethodName := ⟨RX1, "canBe", "(I)Z"⟩
abbrev cX1_become : ByteArray := prog_3_method_3_code
def yX1_become : MethodName := ⟨RX1, "become", "(I)V"⟩
abbrev cX1_isNumber : ByteArray := prog_3_method_4_code
def yX1_isNumber : MethodName := ⟨RX1, "isNumber", "(I)Z"⟩
abbrev cX1_number : ByteArray := prog_3_method_5_code
def yX1_number : MethodName := ⟨RX1, "number", "(II)I"⟩
abbrev cX1_withNumber : ByteArray := prog_3_method_6_code
def yX1_withNumber : MethodName := ⟨RX1, "withNumber", "(III)I"⟩
abbrev cX1_plus : ByteArray := prog_3_method_7_code
def yX1_plus : MethodName := ⟨RX1, "plus", "(III)I"⟩
abbrev cX1_minus : ByteArray := prog_3_method_8_code
def yX1_minus : MethodName := ⟨RX1, "minus", "(III)I"⟩
abbrev cX1_firstIndex : ByteArray := prog_3_method_9_code
def yX1_firstIndex : MethodName := ⟨RX1, "firstIndex", "(I)I"⟩
abbrev cX1_first : ByteArray := prog_3_method_10_code
def yX1_first : MethodName := ⟨RX1, "first", "(I)I"⟩
abbrev cX1_shape : ByteArray := prog_3_method_11_code
def yX1_shape : MethodName := ⟨RX1, "shape", "(I)I"⟩
abbrev cX1_filled : ByteArray := prog_3_method_12_code
def yX1_filled : MethodName := ⟨RX1, "filled", "(I)I"⟩
abbrev cX1_sumOfProducts : ByteArray := prog_3_method_13_code
def yX1_sumOfProducts : MethodName := ⟨RX1, "sumOfProducts", "(II)I"⟩
abbrev cX1_product : ByteArray := prog_3_method_14_code
def yX1_product : MethodName := ⟨RX1, "product", "(III)I"⟩
abbrev cX1_shapes : ByteArray := prog_3_method_15_code
def yX1_shapes : MethodName := ⟨RX1, "shapes", "(I)I"⟩
def RX2 : String := "TimesBench$Joiner"
def TX2 : u_T := fun k => match k with
  | _ => ("TimesBench$Joiner", "ground", "LTimesBench$Ground;", true)
def tyX2 : Nat → FieldType := fun k => match k with
  | _ => .object "TimesBench$Ground"
abbrev wsX20 : List Cond := u_ws RX2 TX2 1
theorem nmX2 : ∀ a, a < 1 → ∀ b, b < 1 → a ≠ b → (TX2 a).2.1 ≠ (TX2 b).2.1 := by decide +kernel
theorem tyX2_ok : ∀ k, k < 1 → parseFieldDescriptor (TX2 k).2.2.1 = some (tyX2 k) := by decide +kernel
abbrev cX2_init : ByteArray := prog_4_method_1_code
def yX2_init : MethodName := ⟨RX2, "<init>", "(LTimesBench$Ground;)V"⟩
abbrev cX2_turnRound : ByteArray := prog_4_method_2_code
def yX2_turnRound : MethodName := ⟨RX2, "turnRound", "(LTimesBench$Piece;LTimesBench$Piece;)V"⟩
abbrev cX2_putBeside : ByteArray := prog_4_method_3_code
def yX2_putBeside : MethodName := ⟨RX2, "putBeside", "(LTimesBench$Piece;LTimesBench$Piece;LTimesBench$Piece;)V"⟩
abbrev cX2_putWithin : ByteArray := prog_4_method_4_code
def yX2_putWithin : MethodName := ⟨RX2, "putWithin", "(LTimesBench$Piece;LTimesBench$Piece;LTimesBench$Piece;)V"⟩
abbrev cX2_fillWithin : ByteArray := prog_4_method_5_code
def yX2_fillWithin : MethodName := ⟨RX2, "fillWithin", "(LTimesBench$Piece;IILTimesBench$Piece;LTimesBench$Piece;)V"⟩
abbrev cX2_rowWithin : ByteArray := prog_4_method_6_code
def yX2_rowWithin : MethodName := ⟨RX2, "rowWithin", "(LTimesBench$Piece;ILTimesBench$Piece;II)I"⟩
def RX3 : String := "TimesBench$Mover"
def TX3 : u_T := fun k => match k with
  | _ => ("TimesBench$Mover", "ground", "LTimesBench$Ground;", true)
def tyX3 : Nat → FieldType := fun k => match k with
  | _ => .object "TimesBench$Ground"
abbrev wsX30 : List Cond := u_ws RX3 TX3 1
theorem nmX3 : ∀ a, a < 1 → ∀ b, b < 1 → a ≠ b → (TX3 a).2.1 ≠ (TX3 b).2.1 := by decide +kernel
theorem tyX3_ok : ∀ k, k < 1 → parseFieldDescriptor (TX3 k).2.2.1 = some (tyX3 k) := by decide +kernel
abbrev cX3_init : ByteArray := prog_5_method_1_code
def yX3_init : MethodName := ⟨RX3, "<init>", "(LTimesBench$Ground;)V"⟩
abbrev cX3_countMoves : ByteArray := prog_5_method_2_code
def yX3_countMoves : MethodName := ⟨RX3, "countMoves", "(LTimesBench$Piece;)I"⟩
abbrev cX3_doNumbered : ByteArray := prog_5_method_3_code
def yX3_doNumbered : MethodName := ⟨RX3, "doNumbered", "(LTimesBench$Piece;I)V"⟩
abbrev cX3_mateOf : ByteArray := prog_5_method_4_code
def yX3_mateOf : MethodName := ⟨RX3, "mateOf", "(LTimesBench$Piece;III)I"⟩
abbrev cX3_doMove : ByteArray := prog_5_method_5_code
def yX3_doMove : MethodName := ⟨RX3, "doMove", "(LTimesBench$Piece;III)V"⟩
abbrev cX3_lessen : ByteArray := prog_5_method_6_code
def yX3_lessen : MethodName := ⟨RX3, "lessen", "(LTimesBench$Piece;)I"⟩
abbrev cX3_dropNoughts : ByteArray := prog_5_method_7_code
def yX3_dropNoughts : MethodName := ⟨RX3, "dropNoughts", "(LTimesBench$Piece;)Z"⟩
abbrev cX3_joinAlike : ByteArray := prog_5_method_8_code
def yX3_joinAlike : MethodName := ⟨RX3, "joinAlike", "(LTimesBench$Piece;)Z"⟩
abbrev cX3_waysWithMates : ByteArray := prog_5_method_9_code
def yX3_waysWithMates : MethodName := ⟨RX3, "waysWithMates", "(LTimesBench$Piece;I)I"⟩
abbrev cX3_thirdBesideAlike : ByteArray := prog_5_method_10_code
def yX3_thirdBesideAlike : MethodName := ⟨RX3, "thirdBesideAlike", "(LTimesBench$Piece;II)I"⟩
abbrev cX3_join : ByteArray := prog_5_method_11_code
def yX3_join : MethodName := ⟨RX3, "join", "(LTimesBench$Piece;III)V"⟩
def RX4 : String := "TimesBench$Piece"
def TX4 : u_T := fun k => match k with
  | 0 => ("TimesBench$Piece", "ground", "LTimesBench$Ground;", true)
  | 1 => ("TimesBench$Piece", "size", "[I", true)
  | 2 => ("TimesBench$Piece", "fiber", "[I", true)
  | 3 => ("TimesBench$Piece", "row", "[I", true)
  | 4 => ("TimesBench$Piece", "shape", "[I", true)
  | 5 => ("TimesBench$Piece", "mates", "[I", true)
  | _ => ("TimesBench$Piece", "times", "I", false)
def tyX4 : Nat → FieldType := fun k => match k with
  | 0 => .object "TimesBench$Ground"
  | 1 => .array .int
  | 2 => .array .int
  | 3 => .array .int
  | 4 => .array .int
  | 5 => .array .int
  | _ => .int
abbrev wsX40 : List Cond := u_ws RX4 TX4 7
theorem nmX4 : ∀ a, a < 7 → ∀ b, b < 7 → a ≠ b → (TX4 a).2.1 ≠ (TX4 b).2.1 := by decide +kernel
theorem tyX4_ok : ∀ k, k < 7 → parseFieldDescriptor (TX4 k).2.2.1 = some (tyX4 k) := by decide +kernel
abbrev cX4_init : ByteArray := prog_6_method_1_code
def yX4_init : MethodName := ⟨RX4, "<init>", "(LTimesBench$Ground;)V"⟩
abbrev cX4_start : ByteArray := prog_6_method_2_code
def yX4_start : MethodName := ⟨RX4, "start", "(III)V"⟩
abbrev cX4_copyFrom : ByteArray := prog_6_method_3_code
def yX4_copyFrom : MethodName := ⟨RX4, "copyFrom", "(LTimesBench$Piece;)V"⟩
abbrev cX4_hasIndex : ByteArray := prog_6_method_4_code
def yX4_hasIndex : MethodName := ⟨RX4, "hasIndex", "(II)Z"⟩
abbrev cX4_hasPlace : ByteArray := prog_6_method_5_code
def yX4_hasPlace : MethodName := ⟨RX4, "hasPlace", "(III)Z"⟩
abbrev cX4_hasTime : ByteArray := prog_6_method_6_code
def yX4_hasTime : MethodName := ⟨RX4, "hasTime", "(I)Z"⟩
abbrev cX4_fits : ByteArray := prog_6_method_7_code
def yX4_fits : MethodName := ⟨RX4, "fits", "(II)Z"⟩
abbrev cX4_fiberAt : ByteArray := prog_6_method_8_code
def yX4_fiberAt : MethodName := ⟨RX4, "fiberAt", "(II)I"⟩
abbrev cX4_setFiber : ByteArray := prog_6_method_9_code
def yX4_setFiber : MethodName := ⟨RX4, "setFiber", "(III)V"⟩
abbrev cX4_number : ByteArray := prog_6_method_10_code
def yX4_number : MethodName := ⟨RX4, "number", "(III)I"⟩
abbrev cX4_setNumber : ByteArray := prog_6_method_11_code
def yX4_setNumber : MethodName := ⟨RX4, "setNumber", "(IIII)V"⟩
abbrev cX4_filledPlaces : ByteArray := prog_6_method_12_code
def yX4_filledPlaces : MethodName := ⟨RX4, "filledPlaces", "()I"⟩
abbrev cX4_line : ByteArray := prog_6_method_13_code
def yX4_line : MethodName := ⟨RX4, "line", "(III)I"⟩
abbrev cX4_rowOf : ByteArray := prog_6_method_14_code
def yX4_rowOf : MethodName := ⟨RX4, "rowOf", "(II)I"⟩
abbrev cX4_put : ByteArray := prog_6_method_15_code
def yX4_put : MethodName := ⟨RX4, "put", "(III)V"⟩
abbrev cX4_countMates : ByteArray := prog_6_method_16_code
def yX4_countMates : MethodName := ⟨RX4, "countMates", "(III)V"⟩
abbrev cX4_append : ByteArray := prog_6_method_17_code
def yX4_append : MethodName := ⟨RX4, "append", "(III)V"⟩
abbrev cX4_remove : ByteArray := prog_6_method_18_code
def yX4_remove : MethodName := ⟨RX4, "remove", "(I)V"⟩
abbrev cX4_becomePlain : ByteArray := prog_6_method_19_code
def yX4_becomePlain : MethodName := ⟨RX4, "becomePlain", "()V"⟩
abbrev cX4_appendPlain : ByteArray := prog_6_method_20_code
def yX4_appendPlain : MethodName := ⟨RX4, "appendPlain", "(II)V"⟩
abbrev cX4_matesOf : ByteArray := prog_6_method_21_code
def yX4_matesOf : MethodName := ⟨RX4, "matesOf", "(II)I"⟩
abbrev cX4_alike : ByteArray := prog_6_method_22_code
def yX4_alike : MethodName := ⟨RX4, "alike", "(III)Z"⟩
abbrev cX4_factor : ByteArray := prog_6_method_23_code
def yX4_factor : MethodName := ⟨RX4, "factor", "(III)I"⟩
abbrev cX4_addIndex : ByteArray := prog_6_method_24_code
def yX4_addIndex : MethodName := ⟨RX4, "addIndex", "(IIII)V"⟩
abbrev cX4_addIndexInFibers : ByteArray := prog_6_method_25_code
def yX4_addIndexInFibers : MethodName := ⟨RX4, "addIndexInFibers", "(IIII)V"⟩
abbrev cX4_addedInRow : ByteArray := prog_6_method_26_code
def yX4_addedInRow : MethodName := ⟨RX4, "addedInRow", "(IIII)I"⟩
def RX5 : String := "TimesBench$Runner"
def TX5 : u_T := fun k => match k with
  | 0 => ("TimesBench$Runner", "ground", "LTimesBench$Ground;", true)
  | _ => ("TimesBench$Runner", "added", "[I", true)
def tyX5 : Nat → FieldType := fun k => match k with
  | 0 => .object "TimesBench$Ground"
  | _ => .array .int
abbrev wsX50 : List Cond := u_ws RX5 TX5 2
theorem nmX5 : ∀ a, a < 2 → ∀ b, b < 2 → a ≠ b → (TX5 a).2.1 ≠ (TX5 b).2.1 := by decide +kernel
theorem tyX5_ok : ∀ k, k < 2 → parseFieldDescriptor (TX5 k).2.2.1 = some (tyX5 k) := by decide +kernel
abbrev cX5_init : ByteArray := prog_7_method_1_code
def yX5_init : MethodName := ⟨RX5, "<init>", "(LTimesBench$Ground;)V"⟩
abbrev cX5_byBox : ByteArray := prog_7_method_2_code
def yX5_byBox : MethodName := ⟨RX5, "byBox", "(LTimesBench$Piece;II)I"⟩
abbrev cX5_byScheme : ByteArray := prog_7_method_3_code
def yX5_byScheme : MethodName := ⟨RX5, "byScheme", "(LTimesBench$Piece;II)I"⟩
abbrev cX5_wrongPlace : ByteArray := prog_7_method_4_code
def yX5_wrongPlace : MethodName := ⟨RX5, "wrongPlace", "(LTimesBench$Piece;I)I"⟩
abbrev cX5_filledIndex : ByteArray := prog_7_method_5_code
def yX5_filledIndex : MethodName := ⟨RX5, "filledIndex", "(II)I"⟩
abbrev cX5_addAll : ByteArray := prog_7_method_6_code
def yX5_addAll : MethodName := ⟨RX5, "addAll", "(LTimesBench$Piece;)V"⟩
abbrev cX5_addLine : ByteArray := prog_7_method_7_code
def yX5_addLine : MethodName := ⟨RX5, "addLine", "(LTimesBench$Piece;III)V"⟩
def RX6 : String := "TimesBench$Seeker"
def TX6 : u_T := fun k => match k with
  | 0 => ("TimesBench$Seeker", "ground", "LTimesBench$Ground;", true)
  | 1 => ("TimesBench$Seeker", "slices", "LTimesBench$Basis;", true)
  | 2 => ("TimesBench$Seeker", "chosen", "LTimesBench$Basis;", true)
  | 3 => ("TimesBench$Seeker", "pairU", "[I", true)
  | 4 => ("TimesBench$Seeker", "pairV", "[I", true)
  | 5 => ("TimesBench$Seeker", "table", "[I", true)
  | 6 => ("TimesBench$Seeker", "left", "[[I", true)
  | 7 => ("TimesBench$Seeker", "pick", "[I", true)
  | 8 => ("TimesBench$Seeker", "pairs", "I", false)
  | 9 => ("TimesBench$Seeker", "wanted", "I", false)
  | _ => ("TimesBench$Seeker", "strangers", "I", false)
def tyX6 : Nat → FieldType := fun k => match k with
  | 0 => .object "TimesBench$Ground"
  | 1 => .object "TimesBench$Basis"
  | 2 => .object "TimesBench$Basis"
  | 3 => .array .int
  | 4 => .array .int
  | 5 => .array .int
  | 6 => .array (.array .int)
  | 7 => .array .int
  | 8 => .int
  | 9 => .int
  | _ => .int
abbrev wsX60 : List Cond := u_ws RX6 TX6 11
theorem nmX6 : ∀ a, a < 11 → ∀ b, b < 11 → a ≠ b → (TX6 a).2.1 ≠ (TX6 b).2.1 := by decide +kernel
theorem tyX6_ok : ∀ k, k < 11 → parseFieldDescriptor (TX6 k).2.2.1 = some (tyX6 k) := by decide +kernel
abbrev cX6_init : ByteArray := prog_8_method_1_code
def yX6_init : MethodName := ⟨RX6, "<init>", "(LTimesBench$Ground;)V"⟩
abbrev cX6_seek : ByteArray := prog_8_method_2_code
def yX6_seek : MethodName := ⟨RX6, "seek", "(LTimesBench$Piece;)I"⟩
abbrev cX6_takeSlices : ByteArray := prog_8_method_3_code
def yX6_takeSlices : MethodName := ⟨RX6, "takeSlices", "(LTimesBench$Piece;)V"⟩
abbrev cX6_sliceOf : ByteArray := prog_8_method_4_code
def yX6_sliceOf : MethodName := ⟨RX6, "sliceOf", "(LTimesBench$Piece;I)I"⟩
abbrev cX6_listPairs : ByteArray := prog_8_method_5_code
def yX6_listPairs : MethodName := ⟨RX6, "listPairs", "(II)V"⟩
abbrev cX6_listPairsOf : ByteArray := prog_8_method_6_code
def yX6_listPairsOf : MethodName := ⟨RX6, "listPairsOf", "(II)V"⟩
abbrev cX6_pickFrom : ByteArray := prog_8_method_7_code
def yX6_pickFrom : MethodName := ⟨RX6, "pickFrom", "(III)Z"⟩
abbrev cX6_meet : ByteArray := prog_8_method_8_code
def yX6_meet : MethodName := ⟨RX6, "meet", "(II)V"⟩
abbrev cX6_writeScheme : ByteArray := prog_8_method_9_code
def yX6_writeScheme : MethodName := ⟨RX6, "writeScheme", "(LTimesBench$Piece;I)V"⟩
def RX7 : String := "TimesBench$Sharer"
def TX7 : u_T := fun k => match k with
  | 0 => ("TimesBench$Sharer", "ground", "LTimesBench$Ground;", true)
  | 1 => ("TimesBench$Sharer", "column", "[I", true)
  | 2 => ("TimesBench$Sharer", "value", "[I", true)
  | 3 => ("TimesBench$Sharer", "length", "[I", true)
  | 4 => ("TimesBench$Sharer", "tally", "[I", true)
  | 5 => ("TimesBench$Sharer", "lists", "I", false)
  | 6 => ("TimesBench$Sharer", "columns", "I", false)
  | 7 => ("TimesBench$Sharer", "bestCount", "I", false)
  | 8 => ("TimesBench$Sharer", "bestA", "I", false)
  | _ => ("TimesBench$Sharer", "bestKey", "I", false)
def tyX7 : Nat → FieldType := fun k => match k with
  | 0 => .object "TimesBench$Ground"
  | 1 => .array .int
  | 2 => .array .int
  | 3 => .array .int
  | 4 => .array .int
  | 5 => .int
  | 6 => .int
  | 7 => .int
  | 8 => .int
  | _ => .int
abbrev wsX70 : List Cond := u_ws RX7 TX7 10
theorem nmX7 : ∀ a, a < 10 → ∀ b, b < 10 → a ≠ b → (TX7 a).2.1 ≠ (TX7 b).2.1 := by decide +kernel
theorem tyX7_ok : ∀ k, k < 10 → parseFieldDescriptor (TX7 k).2.2.1 = some (tyX7 k) := by decide +kernel
abbrev cX7_init : ByteArray := prog_9_method_1_code
def yX7_init : MethodName := ⟨RX7, "<init>", "(LTimesBench$Ground;)V"⟩
abbrev cX7_plainSums : ByteArray := prog_9_method_2_code
def yX7_plainSums : MethodName := ⟨RX7, "plainSums", "(LTimesBench$Piece;I)I"⟩
abbrev cX7_sharedSums : ByteArray := prog_9_method_3_code
def yX7_sharedSums : MethodName := ⟨RX7, "sharedSums", "(LTimesBench$Piece;I)I"⟩
abbrev cX7_load : ByteArray := prog_9_method_4_code
def yX7_load : MethodName := ⟨RX7, "load", "(LTimesBench$Piece;I)V"⟩
abbrev cX7_append : ByteArray := prog_9_method_5_code
def yX7_append : MethodName := ⟨RX7, "append", "(III)V"⟩
abbrev cX7_sumsOfLists : ByteArray := prog_9_method_6_code
def yX7_sumsOfLists : MethodName := ⟨RX7, "sumsOfLists", "()I"⟩
abbrev cX7_seekBest : ByteArray := prog_9_method_7_code
def yX7_seekBest : MethodName := ⟨RX7, "seekBest", "()Z"⟩
abbrev cX7_indexOf : ByteArray := prog_9_method_8_code
def yX7_indexOf : MethodName := ⟨RX7, "indexOf", "(II)I"⟩
abbrev cX7_tallyBehind : ByteArray := prog_9_method_9_code
def yX7_tallyBehind : MethodName := ⟨RX7, "tallyBehind", "(II)V"⟩
abbrev cX7_keyOf : ByteArray := prog_9_method_10_code
def yX7_keyOf : MethodName := ⟨RX7, "keyOf", "(II)I"⟩
abbrev cX7_takeBest : ByteArray := prog_9_method_11_code
def yX7_takeBest : MethodName := ⟨RX7, "takeBest", "()V"⟩
abbrev cX7_cut : ByteArray := prog_9_method_12_code
def yX7_cut : MethodName := ⟨RX7, "cut", "(II)V"⟩
def RX8 : String := "TimesBench"
def TX8 : u_T := fun k => match k with
  | 0 => ("TimesBench", "ground", "LTimesBench$Ground;", true)
  | 1 => ("TimesBench", "kept", "[LTimesBench$Piece;", true)
  | 2 => ("TimesBench", "isKept", "[Z", true)
  | 3 => ("TimesBench", "inHand", "[I", true)
  | 4 => ("TimesBench", "mover", "LTimesBench$Mover;", true)
  | 5 => ("TimesBench", "joiner", "LTimesBench$Joiner;", true)
  | 6 => ("TimesBench", "runner", "LTimesBench$Runner;", true)
  | 7 => ("TimesBench", "columns", "LTimesBench$Basis;", true)
  | 8 => ("TimesBench", "seeker", "LTimesBench$Seeker;", true)
  | 9 => ("TimesBench", "sharer", "LTimesBench$Sharer;", true)
  | 10 => ("TimesBench", "piece", "LTimesBench$Piece;", false)
  | _ => ("TimesBench", "spare", "LTimesBench$Piece;", false)
def tyX8 : Nat → FieldType := fun k => match k with
  | 0 => .object "TimesBench$Ground"
  | 1 => .array (.object "TimesBench$Piece")
  | 2 => .array .boolean
  | 3 => .array .int
  | 4 => .object "TimesBench$Mover"
  | 5 => .object "TimesBench$Joiner"
  | 6 => .object "TimesBench$Runner"
  | 7 => .object "TimesBench$Basis"
  | 8 => .object "TimesBench$Seeker"
  | 9 => .object "TimesBench$Sharer"
  | 10 => .object "TimesBench$Piece"
  | _ => .object "TimesBench$Piece"
abbrev wsX80 : List Cond := u_ws RX8 TX8 12
theorem nmX8 : ∀ a, a < 12 → ∀ b, b < 12 → a ≠ b → (TX8 a).2.1 ≠ (TX8 b).2.1 := by decide +kernel
theorem tyX8_ok : ∀ k, k < 12 → parseFieldDescriptor (TX8 k).2.2.1 = some (tyX8 k) := by decide +kernel
abbrev cX8_init : ByteArray := prog_1_method_1_code
def yX8_init : MethodName := ⟨RX8, "<init>", "()V"⟩
abbrev cX8_ground : ByteArray := prog_1_method_2_code
def yX8_ground : MethodName := ⟨RX8, "ground", "(I)I"⟩
abbrev cX8_box : ByteArray := prog_1_method_3_code
def yX8_box : MethodName := ⟨RX8, "box", "(III)I"⟩
abbrev cX8_tables : ByteArray := prog_1_method_4_code
def yX8_tables : MethodName := ⟨RX8, "tables", "(III)I"⟩
abbrev cX8_rows : ByteArray := prog_1_method_5_code
def yX8_rows : MethodName := ⟨RX8, "rows", "(III)I"⟩
abbrev cX8_set : ByteArray := prog_1_method_6_code
def yX8_set : MethodName := ⟨RX8, "set", "(IIII)I"⟩
abbrev cX8_at : ByteArray := prog_1_method_7_code
def yX8_at : MethodName := ⟨RX8, "at", "(III)I"⟩
abbrev cX8_many : ByteArray := prog_1_method_8_code
def yX8_many : MethodName := ⟨RX8, "many", "(I)I"⟩
abbrev cX8_time : ByteArray := prog_1_method_9_code
def yX8_time : MethodName := ⟨RX8, "time", "(III)I"⟩
abbrev cX8_row : ByteArray := prog_1_method_10_code
def yX8_row : MethodName := ⟨RX8, "row", "(II)I"⟩
abbrev cX8_change : ByteArray := prog_1_method_11_code
def yX8_change : MethodName := ⟨RX8, "change", "(III)I"⟩
abbrev cX8_drop : ByteArray := prog_1_method_12_code
def yX8_drop : MethodName := ⟨RX8, "drop", "(I)I"⟩
abbrev cX8_plain : ByteArray := prog_1_method_13_code
def yX8_plain : MethodName := ⟨RX8, "plain", "()I"⟩
abbrev cX8_makes : ByteArray := prog_1_method_14_code
def yX8_makes : MethodName := ⟨RX8, "makes", "()Z"⟩
abbrev cX8_off : ByteArray := prog_1_method_15_code
def yX8_off : MethodName := ⟨RX8, "off", "(I)I"⟩
abbrev cX8_less : ByteArray := prog_1_method_16_code
def yX8_less : MethodName := ⟨RX8, "less", "()I"⟩
abbrev cX8_move : ByteArray := prog_1_method_17_code
def yX8_move : MethodName := ⟨RX8, "move", "(III)I"⟩
abbrev cX8_walk : ByteArray := prog_1_method_18_code
def yX8_walk : MethodName := ⟨RX8, "walk", "(II)I"⟩
abbrev cX8_around : ByteArray := prog_1_method_19_code
def yX8_around : MethodName := ⟨RX8, "around", "()I"⟩
abbrev cX8_turn : ByteArray := prog_1_method_20_code
def yX8_turn : MethodName := ⟨RX8, "turn", "(IIII)I"⟩
abbrev cX8_rank : ByteArray := prog_1_method_21_code
def yX8_rank : MethodName := ⟨RX8, "rank", "(I)I"⟩
abbrev cX8_least : ByteArray := prog_1_method_22_code
def yX8_least : MethodName := ⟨RX8, "least", "()I"⟩
abbrev cX8_find : ByteArray := prog_1_method_23_code
def yX8_find : MethodName := ⟨RX8, "find", "()I"⟩
abbrev cX8_hand : ByteArray := prog_1_method_24_code
def yX8_hand : MethodName := ⟨RX8, "hand", "(III)I"⟩
abbrev cX8_run : ByteArray := prog_1_method_25_code
def yX8_run : MethodName := ⟨RX8, "run", "(I)I"⟩
abbrev cX8_sums : ByteArray := prog_1_method_26_code
def yX8_sums : MethodName := ⟨RX8, "sums", "(II)I"⟩
abbrev cX8_keep : ByteArray := prog_1_method_27_code
def yX8_keep : MethodName := ⟨RX8, "keep", "(I)I"⟩
abbrev cX8_back : ByteArray := prog_1_method_28_code
def yX8_back : MethodName := ⟨RX8, "back", "(I)I"⟩
abbrev cX8_beside : ByteArray := prog_1_method_29_code
def yX8_beside : MethodName := ⟨RX8, "beside", "(I)I"⟩
abbrev cX8_within : ByteArray := prog_1_method_30_code
def yX8_within : MethodName := ⟨RX8, "within", "(I)I"⟩
abbrev cX8_isSize : ByteArray := prog_1_method_31_code
def yX8_isSize : MethodName := ⟨RX8, "isSize", "(I)Z"⟩
abbrev cX8_isWay : ByteArray := prog_1_method_32_code
def yX8_isWay : MethodName := ⟨RX8, "isWay", "(I)Z"⟩
abbrev cX8_isPlace : ByteArray := prog_1_method_33_code
def yX8_isPlace : MethodName := ⟨RX8, "isPlace", "(I)Z"⟩
abbrev cX8_faultOfPlace : ByteArray := prog_1_method_34_code
def yX8_faultOfPlace : MethodName := ⟨RX8, "faultOfPlace", "(I)I"⟩
abbrev cX8_startBox : ByteArray := prog_1_method_35_code
def yX8_startBox : MethodName := ⟨RX8, "startBox", "(III)V"⟩
abbrev cX8_emptyHands : ByteArray := prog_1_method_36_code
def yX8_emptyHands : MethodName := ⟨RX8, "emptyHands", "()V"⟩
abbrev cX8_takeSpare : ByteArray := prog_1_method_37_code
def yX8_takeSpare : MethodName := ⟨RX8, "takeSpare", "()V"⟩
abbrev cX8_rankBy : ByteArray := prog_1_method_38_code
def yX8_rankBy : MethodName := ⟨RX8, "rankBy", "(I)I"⟩
def RX9 : String := "TimesBenchModel"
def TX9 : u_T := fun k => match k with
  | 0 => ("TimesBenchModel", "p", "I", false)
  | 1 => ("TimesBenchModel", "size", "[I", true)
  | 2 => ("TimesBenchModel", "box", "[I", true)
  | 3 => ("TimesBenchModel", "scheme", "[I", true)
  | 4 => ("TimesBenchModel", "times", "I", false)
  | 5 => ("TimesBenchModel", "hand", "[I", true)
  | 6 => ("TimesBenchModel", "isKept", "[Z", true)
  | 7 => ("TimesBenchModel", "keptSize", "[I", true)
  | 8 => ("TimesBenchModel", "keptBox", "[I", true)
  | 9 => ("TimesBenchModel", "keptScheme", "[I", true)
  | 10 => ("TimesBenchModel", "keptTimes", "[I", true)
  | 11 => ("TimesBenchModel", "factors", "[I", true)
  | 12 => ("TimesBenchModel", "workBox", "[I", true)
  | 13 => ("TimesBenchModel", "workScheme", "[I", true)
  | 14 => ("TimesBenchModel", "lines", "[I", true)
  | 15 => ("TimesBenchModel", "isKnown", "Z", false)
  | 16 => ("TimesBenchModel", "known", "I", false)
  | 17 => ("TimesBenchModel", "pairU", "[I", true)
  | 18 => ("TimesBenchModel", "pairV", "[I", true)
  | 19 => ("TimesBenchModel", "pairs", "I", false)
  | 20 => ("TimesBenchModel", "chosen", "[I", true)
  | 21 => ("TimesBenchModel", "left", "[I", true)
  | 22 => ("TimesBenchModel", "table", "[I", true)
  | 23 => ("TimesBenchModel", "columnOf", "[I", true)
  | 24 => ("TimesBenchModel", "sumUp", "[I", true)
  | 25 => ("TimesBenchModel", "by", "[I", true)
  | 26 => ("TimesBenchModel", "shared", "[I", true)
  | _ => ("TimesBenchModel", "columns", "I", false)
def tyX9 : Nat → FieldType := fun k => match k with
  | 0 => .int
  | 1 => .array .int
  | 2 => .array .int
  | 3 => .array .int
  | 4 => .int
  | 5 => .array .int
  | 6 => .array .boolean
  | 7 => .array .int
  | 8 => .array .int
  | 9 => .array .int
  | 10 => .array .int
  | 11 => .array .int
  | 12 => .array .int
  | 13 => .array .int
  | 14 => .array .int
  | 15 => .boolean
  | 16 => .int
  | 17 => .array .int
  | 18 => .array .int
  | 19 => .int
  | 20 => .array .int
  | 21 => .array .int
  | 22 => .array .int
  | 23 => .array .int
  | 24 => .array .int
  | 25 => .array .int
  | 26 => .array .int
  | _ => .int
abbrev wsX90 : List Cond := u_ws RX9 TX9 28
theorem nmX9 : ∀ a, a < 28 → ∀ b, b < 28 → a ≠ b → (TX9 a).2.1 ≠ (TX9 b).2.1 := by decide +kernel
theorem tyX9_ok : ∀ k, k < 28 → parseFieldDescriptor (TX9 k).2.2.1 = some (tyX9 k) := by decide +kernel
abbrev cX9_init : ByteArray := prog_11_method_1_code
def yX9_init : MethodName := ⟨RX9, "<init>", "()V"⟩
abbrev cX9_in : ByteArray := prog_11_method_2_code
def yX9_in : MethodName := ⟨RX9, "in", "(JJJ)Z"⟩
abbrev cX9_fresh : ByteArray := prog_11_method_3_code
def yX9_fresh : MethodName := ⟨RX9, "fresh", "(III)V"⟩
abbrev cX9_emptyHand : ByteArray := prog_11_method_4_code
def yX9_emptyHand : MethodName := ⟨RX9, "emptyHand", "()V"⟩
abbrev cX9_inverse : ByteArray := prog_11_method_5_code
def yX9_inverse : MethodName := ⟨RX9, "inverse", "(I)I"⟩
abbrev cX9_ground : ByteArray := prog_11_method_6_code
def yX9_ground : MethodName := ⟨RX9, "ground", "(I)I"⟩
abbrev cX9_areSizes : ByteArray := prog_11_method_7_code
def yX9_areSizes : MethodName := ⟨RX9, "areSizes", "(III)Z"⟩
abbrev cX9_box : ByteArray := prog_11_method_8_code
def yX9_box : MethodName := ⟨RX9, "box", "(III)I"⟩
abbrev cX9_tables : ByteArray := prog_11_method_9_code
def yX9_tables : MethodName := ⟨RX9, "tables", "(III)I"⟩
abbrev cX9_rows : ByteArray := prog_11_method_10_code
def yX9_rows : MethodName := ⟨RX9, "rows", "(III)I"⟩
abbrev cX9_isPlace : ByteArray := prog_11_method_11_code
def yX9_isPlace : MethodName := ⟨RX9, "isPlace", "(III)Z"⟩
abbrev cX9_set : ByteArray := prog_11_method_12_code
def yX9_set : MethodName := ⟨RX9, "set", "(IIII)I"⟩
abbrev cX9_at : ByteArray := prog_11_method_13_code
def yX9_at : MethodName := ⟨RX9, "at", "(III)I"⟩
abbrev cX9_filled : ByteArray := prog_11_method_14_code
def yX9_filled : MethodName := ⟨RX9, "filled", "()I"⟩
abbrev cX9_many : ByteArray := prog_11_method_15_code
def yX9_many : MethodName := ⟨RX9, "many", "(I)I"⟩
abbrev cX9_rowsOf : ByteArray := prog_11_method_16_code
def yX9_rowsOf : MethodName := ⟨RX9, "rowsOf", "(I)I"⟩
abbrev cX9_isRow : ByteArray := prog_11_method_17_code
def yX9_isRow : MethodName := ⟨RX9, "isRow", "(II)Z"⟩
abbrev cX9_putRow : ByteArray := prog_11_method_18_code
def yX9_putRow : MethodName := ⟨RX9, "putRow", "(III)V"⟩
abbrev cX9_getRow : ByteArray := prog_11_method_19_code
def yX9_getRow : MethodName := ⟨RX9, "getRow", "(II)I"⟩
abbrev cX9_time : ByteArray := prog_11_method_20_code
def yX9_time : MethodName := ⟨RX9, "time", "(III)I"⟩
abbrev cX9_isTime : ByteArray := prog_11_method_21_code
def yX9_isTime : MethodName := ⟨RX9, "isTime", "(I)Z"⟩
abbrev cX9_row : ByteArray := prog_11_method_22_code
def yX9_row : MethodName := ⟨RX9, "row", "(II)I"⟩
abbrev cX9_change : ByteArray := prog_11_method_23_code
def yX9_change : MethodName := ⟨RX9, "change", "(III)I"⟩
abbrev cX9_remove : ByteArray := prog_11_method_24_code
def yX9_remove : MethodName := ⟨RX9, "remove", "(I)V"⟩
abbrev cX9_drop : ByteArray := prog_11_method_25_code
def yX9_drop : MethodName := ⟨RX9, "drop", "(I)I"⟩
abbrev cX9_plain : ByteArray := prog_11_method_26_code
def yX9_plain : MethodName := ⟨RX9, "plain", "()I"⟩
abbrev cX9_added : ByteArray := prog_11_method_27_code
def yX9_added : MethodName := ⟨RX9, "added", "(III)I"⟩
abbrev cX9_off : ByteArray := prog_11_method_28_code
def yX9_off : MethodName := ⟨RX9, "off", "(I)I"⟩
abbrev cX9_makes : ByteArray := prog_11_method_29_code
def yX9_makes : MethodName := ⟨RX9, "makes", "()Z"⟩
abbrev cX9_isNought : ByteArray := prog_11_method_30_code
def yX9_isNought : MethodName := ⟨RX9, "isNought", "(II)Z"⟩
abbrev cX9_factor : ByteArray := prog_11_method_31_code
def yX9_factor : MethodName := ⟨RX9, "factor", "(III)I"⟩
abbrev cX9_dropNought : ByteArray := prog_11_method_32_code
def yX9_dropNought : MethodName := ⟨RX9, "dropNought", "()Z"⟩
abbrev cX9_bringTogether : ByteArray := prog_11_method_33_code
def yX9_bringTogether : MethodName := ⟨RX9, "bringTogether", "(II)Z"⟩
abbrev cX9_addRow : ByteArray := prog_11_method_34_code
def yX9_addRow : MethodName := ⟨RX9, "addRow", "(IIIII)V"⟩
abbrev cX9_lessenOnce : ByteArray := prog_11_method_35_code
def yX9_lessenOnce : MethodName := ⟨RX9, "lessenOnce", "()Z"⟩
abbrev cX9_less : ByteArray := prog_11_method_36_code
def yX9_less : MethodName := ⟨RX9, "less", "()I"⟩
abbrev cX9_moves : ByteArray := prog_11_method_37_code
def yX9_moves : MethodName := ⟨RX9, "moves", "()I"⟩
abbrev cX9_doMove : ByteArray := prog_11_method_38_code
def yX9_doMove : MethodName := ⟨RX9, "doMove", "(III)Z"⟩
abbrev cX9_move : ByteArray := prog_11_method_39_code
def yX9_move : MethodName := ⟨RX9, "move", "(III)I"⟩
abbrev cX9_moveOf : ByteArray := prog_11_method_40_code
def yX9_moveOf : MethodName := ⟨RX9, "moveOf", "(I)V"⟩
abbrev cX9_walk : ByteArray := prog_11_method_41_code
def yX9_walk : MethodName := ⟨RX9, "walk", "(II)I"⟩
abbrev cX9_around : ByteArray := prog_11_method_42_code
def yX9_around : MethodName := ⟨RX9, "around", "()I"⟩
abbrev cX9_turn : ByteArray := prog_11_method_43_code
def yX9_turn : MethodName := ⟨RX9, "turn", "(IIII)I"⟩
abbrev cX9_rankOfLines : ByteArray := prog_11_method_44_code
def yX9_rankOfLines : MethodName := ⟨RX9, "rankOfLines", "(II)I"⟩
abbrev cX9_takeLine : ByteArray := prog_11_method_45_code
def yX9_takeLine : MethodName := ⟨RX9, "takeLine", "(IIIII)V"⟩
abbrev cX9_rankBy : ByteArray := prog_11_method_46_code
def yX9_rankBy : MethodName := ⟨RX9, "rankBy", "(I)I"⟩
abbrev cX9_rank : ByteArray := prog_11_method_47_code
def yX9_rank : MethodName := ⟨RX9, "rank", "(I)I"⟩
abbrev cX9_ones : ByteArray := prog_11_method_48_code
def yX9_ones : MethodName := ⟨RX9, "ones", "(I)J"⟩
abbrev cX9_isOne : ByteArray := prog_11_method_49_code
def yX9_isOne : MethodName := ⟨RX9, "isOne", "(I)Z"⟩
abbrev cX9_findPairs : ByteArray := prog_11_method_50_code
def yX9_findPairs : MethodName := ⟨RX9, "findPairs", "()V"⟩
abbrev cX9_digit : ByteArray := prog_11_method_51_code
def yX9_digit : MethodName := ⟨RX9, "digit", "(II)I"⟩
abbrev cX9_lay : ByteArray := prog_11_method_52_code
def yX9_lay : MethodName := ⟨RX9, "lay", "(I)Z"⟩
abbrev cX9_rankLeft : ByteArray := prog_11_method_53_code
def yX9_rankLeft : MethodName := ⟨RX9, "rankLeft", "(I)I"⟩
abbrev cX9_isDoneBy : ByteArray := prog_11_method_54_code
def yX9_isDoneBy : MethodName := ⟨RX9, "isDoneBy", "(I)Z"⟩
abbrev cX9_findLeast : ByteArray := prog_11_method_55_code
def yX9_findLeast : MethodName := ⟨RX9, "findLeast", "()I"⟩
abbrev cX9_least : ByteArray := prog_11_method_56_code
def yX9_least : MethodName := ⟨RX9, "least", "()I"⟩
abbrev cX9_sumTo : ByteArray := prog_11_method_57_code
def yX9_sumTo : MethodName := ⟨RX9, "sumTo", "(II)V"⟩
abbrev cX9_find : ByteArray := prog_11_method_58_code
def yX9_find : MethodName := ⟨RX9, "find", "()I"⟩
abbrev cX9_hand : ByteArray := prog_11_method_59_code
def yX9_hand : MethodName := ⟨RX9, "hand", "(III)I"⟩
abbrev cX9_byBox : ByteArray := prog_11_method_60_code
def yX9_byBox : MethodName := ⟨RX9, "byBox", "(I)I"⟩
abbrev cX9_byScheme : ByteArray := prog_11_method_61_code
def yX9_byScheme : MethodName := ⟨RX9, "byScheme", "(I)I"⟩
abbrev cX9_run : ByteArray := prog_11_method_62_code
def yX9_run : MethodName := ⟨RX9, "run", "(I)I"⟩
abbrev cX9_plainSums : ByteArray := prog_11_method_63_code
def yX9_plainSums : MethodName := ⟨RX9, "plainSums", "(I)I"⟩
abbrev cX9_hasBoth : ByteArray := prog_11_method_64_code
def yX9_hasBoth : MethodName := ⟨RX9, "hasBoth", "(IIII)Z"⟩
abbrev cX9_rowsWith : ByteArray := prog_11_method_65_code
def yX9_rowsWith : MethodName := ⟨RX9, "rowsWith", "(III)I"⟩
abbrev cX9_share : ByteArray := prog_11_method_66_code
def yX9_share : MethodName := ⟨RX9, "share", "()Z"⟩
abbrev cX9_sums : ByteArray := prog_11_method_67_code
def yX9_sums : MethodName := ⟨RX9, "sums", "(II)I"⟩
abbrev cX9_isKeep : ByteArray := prog_11_method_68_code
def yX9_isKeep : MethodName := ⟨RX9, "isKeep", "(I)Z"⟩
abbrev cX9_keep : ByteArray := prog_11_method_69_code
def yX9_keep : MethodName := ⟨RX9, "keep", "(I)I"⟩
abbrev cX9_back : ByteArray := prog_11_method_70_code
def yX9_back : MethodName := ⟨RX9, "back", "(I)I"⟩
abbrev cX9_beside : ByteArray := prog_11_method_71_code
def yX9_beside : MethodName := ⟨RX9, "beside", "(I)I"⟩
abbrev cX9_within : ByteArray := prog_11_method_72_code
def yX9_within : MethodName := ⟨RX9, "within", "(I)I"⟩
abbrev cX9_productAt : ByteArray := prog_11_method_73_code
def yX9_productAt : MethodName := ⟨RX9, "productAt", "(IIIII)I"⟩
def RJ9 : String := "java/lang/Math"
def TJ9 : u_T := fun k => match k with
  | _ => ("", "", "", false)
def tyJ9 : Nat → FieldType := fun k => match k with
  | _ => .int
abbrev wsJ90 : List Cond := u_ws RJ9 TJ9 0
theorem nmJ9 : ∀ a, a < 0 → ∀ b, b < 0 → a ≠ b → (TJ9 a).2.1 ≠ (TJ9 b).2.1 := by decide +kernel
theorem tyJ9_ok : ∀ k, k < 0 → parseFieldDescriptor (TJ9 k).2.2.1 = some (tyJ9 k) := by decide +kernel
abbrev cJ9_max_7cf53 : ByteArray := prog_12_method_65_code
def yJ9_max_7cf53 : MethodName := ⟨RJ9, "max", "(II)I"⟩
def RJ10 : String := "java/lang/System"
def TJ10 : u_T := fun k => match k with
  | _ => ("", "", "", false)
def tyJ10 : Nat → FieldType := fun k => match k with
  | _ => .int
abbrev wsJ100 : List Cond := u_ws RJ10 TJ10 0
theorem nmJ10 : ∀ a, a < 0 → ∀ b, b < 0 → a ≠ b → (TJ10 a).2.1 ≠ (TJ10 b).2.1 := by decide +kernel
theorem tyJ10_ok : ∀ k, k < 0 → parseFieldDescriptor (TJ10 k).2.2.1 = some (tyJ10 k) := by decide +kernel
def RJ7 : String := "java/util/Arrays"
def TJ7 : u_T := fun k => match k with
  | _ => ("", "", "", false)
def tyJ7 : Nat → FieldType := fun k => match k with
  | _ => .int
abbrev wsJ70 : List Cond := u_ws RJ7 TJ7 0
theorem nmJ7 : ∀ a, a < 0 → ∀ b, b < 0 → a ≠ b → (TJ7 a).2.1 ≠ (TJ7 b).2.1 := by decide +kernel
theorem tyJ7_ok : ∀ k, k < 0 → parseFieldDescriptor (TJ7 k).2.2.1 = some (tyJ7 k) := by decide +kernel
abbrev cJ7_rangeCheck_23922 : ByteArray := prog_14_method_30_code
def yJ7_rangeCheck_23922 : MethodName := ⟨RJ7, "rangeCheck", "(III)V"⟩
abbrev cJ7_fill_53178 : ByteArray := prog_14_method_103_code
def yJ7_fill_53178 : MethodName := ⟨RJ7, "fill", "([II)V"⟩
abbrev cJ7_fill_fda19 : ByteArray := prog_14_method_104_code
def yJ7_fill_fda19 : MethodName := ⟨RJ7, "fill", "([IIII)V"⟩
def RL : String := "TimesBenchLaw"
abbrev cL_law : ByteArray := code
def yL_law : MethodName := ⟨RL, "law", "([I)Z"⟩
abbrev vwCl : List vw_C := [(RX0, TX0, 5), (RX1, TX1, 3), (RX2, TX2, 1), (RX3, TX3, 1), (RX4, TX4, 7), (RX5, TX5, 2), (RX6, TX6, 11), (RX7, TX7, 10), (RX8, TX8, 12), (RX9, TX9, 28)]
end
section
theorem dJ7_rangeCheck_23922_0 : decode cJ7_rangeCheck_23922 0 = .ok (.iload_n 1, 1) := by decide +kernel
theorem dJ7_rangeCheck_23922_1 : decode cJ7_rangeCheck_23922 1 = .ok (.iload_n 2, 1) := by decide +kernel
theorem dJ7_rangeCheck_23922_2 : decode cJ7_rangeCheck_23922 2 = .ok (.if_icmp .le 44, 3) := by decide +kernel
theorem dJ7_rangeCheck_23922_5 : decode cJ7_rangeCheck_23922 5 = .ok (.new 43, 3) := by decide +kernel
theorem dJ7_rangeCheck_23922_8 : decode cJ7_rangeCheck_23922 8 = .ok (.dup, 1) := by decide +kernel
theorem dJ7_rangeCheck_23922_9 : decode cJ7_rangeCheck_23922 9 = .ok (.new 45, 3) := by decide +kernel
theorem dJ7_rangeCheck_23922_12 : decode cJ7_rangeCheck_23922 12 = .ok (.dup, 1) := by decide +kernel
theorem dJ7_rangeCheck_23922_13 : decode cJ7_rangeCheck_23922 13 = .ok (.invokespecial 47, 3) := by decide +kernel
theorem dJ7_rangeCheck_23922_16 : decode cJ7_rangeCheck_23922 16 = .ok (.ldc 48, 2) := by decide +kernel
theorem dJ7_rangeCheck_23922_18 : decode cJ7_rangeCheck_23922 18 = .ok (.invokevirtual 50, 3) := by decide +kernel
theorem dJ7_rangeCheck_23922_21 : decode cJ7_rangeCheck_23922 21 = .ok (.iload_n 1, 1) := by decide +kernel
theorem dJ7_rangeCheck_23922_22 : decode cJ7_rangeCheck_23922 22 = .ok (.invokevirtual 54, 3) := by decide +kernel
theorem dJ7_rangeCheck_23922_25 : decode cJ7_rangeCheck_23922 25 = .ok (.ldc 57, 2) := by decide +kernel
theorem dJ7_rangeCheck_23922_27 : decode cJ7_rangeCheck_23922 27 = .ok (.invokevirtual 50, 3) := by decide +kernel
theorem dJ7_rangeCheck_23922_30 : decode cJ7_rangeCheck_23922 30 = .ok (.iload_n 2, 1) := by decide +kernel
theorem dJ7_rangeCheck_23922_31 : decode cJ7_rangeCheck_23922 31 = .ok (.invokevirtual 54, 3) := by decide +kernel
theorem dJ7_rangeCheck_23922_34 : decode cJ7_rangeCheck_23922 34 = .ok (.ldc 59, 2) := by decide +kernel
theorem dJ7_rangeCheck_23922_36 : decode cJ7_rangeCheck_23922 36 = .ok (.invokevirtual 50, 3) := by decide +kernel
theorem dJ7_rangeCheck_23922_39 : decode cJ7_rangeCheck_23922 39 = .ok (.invokevirtual 61, 3) := by decide +kernel
theorem dJ7_rangeCheck_23922_42 : decode cJ7_rangeCheck_23922 42 = .ok (.invokespecial 65, 3) := by decide +kernel
theorem dJ7_rangeCheck_23922_45 : decode cJ7_rangeCheck_23922 45 = .ok (.athrow, 1) := by decide +kernel
theorem dJ7_rangeCheck_23922_46 : decode cJ7_rangeCheck_23922 46 = .ok (.iload_n 1, 1) := by decide +kernel
theorem dJ7_rangeCheck_23922_47 : decode cJ7_rangeCheck_23922 47 = .ok (.ifCond .ge 12, 3) := by decide +kernel
theorem dJ7_rangeCheck_23922_50 : decode cJ7_rangeCheck_23922 50 = .ok (.new 68, 3) := by decide +kernel
theorem dJ7_rangeCheck_23922_53 : decode cJ7_rangeCheck_23922 53 = .ok (.dup, 1) := by decide +kernel
theorem dJ7_rangeCheck_23922_54 : decode cJ7_rangeCheck_23922 54 = .ok (.iload_n 1, 1) := by decide +kernel
theorem dJ7_rangeCheck_23922_55 : decode cJ7_rangeCheck_23922 55 = .ok (.invokespecial 70, 3) := by decide +kernel
theorem dJ7_rangeCheck_23922_58 : decode cJ7_rangeCheck_23922 58 = .ok (.athrow, 1) := by decide +kernel
theorem dJ7_rangeCheck_23922_59 : decode cJ7_rangeCheck_23922 59 = .ok (.iload_n 2, 1) := by decide +kernel
theorem dJ7_rangeCheck_23922_60 : decode cJ7_rangeCheck_23922 60 = .ok (.iload_n 0, 1) := by decide +kernel
theorem dJ7_rangeCheck_23922_61 : decode cJ7_rangeCheck_23922 61 = .ok (.if_icmp .le 12, 3) := by decide +kernel
theorem dJ7_rangeCheck_23922_64 : decode cJ7_rangeCheck_23922 64 = .ok (.new 68, 3) := by decide +kernel
theorem dJ7_rangeCheck_23922_67 : decode cJ7_rangeCheck_23922 67 = .ok (.dup, 1) := by decide +kernel
theorem dJ7_rangeCheck_23922_68 : decode cJ7_rangeCheck_23922 68 = .ok (.iload_n 2, 1) := by decide +kernel
theorem dJ7_rangeCheck_23922_69 : decode cJ7_rangeCheck_23922 69 = .ok (.invokespecial 70, 3) := by decide +kernel
theorem dJ7_rangeCheck_23922_72 : decode cJ7_rangeCheck_23922 72 = .ok (.athrow, 1) := by decide +kernel
theorem dJ7_rangeCheck_23922_73 : decode cJ7_rangeCheck_23922 73 = .ok (.return_, 1) := by decide +kernel
theorem dJ7_fill_53178_0 : decode cJ7_fill_53178 0 = .ok (.iconst 0, 1) := by decide +kernel
theorem dJ7_fill_53178_1 : decode cJ7_fill_53178 1 = .ok (.istore_n 2, 1) := by decide +kernel
theorem dJ7_fill_53178_2 : decode cJ7_fill_53178 2 = .ok (.aload_n 0, 1) := by decide +kernel
theorem dJ7_fill_53178_3 : decode cJ7_fill_53178 3 = .ok (.arraylength, 1) := by decide +kernel
theorem dJ7_fill_53178_4 : decode cJ7_fill_53178 4 = .ok (.istore_n 3, 1) := by decide +kernel
theorem dJ7_fill_53178_5 : decode cJ7_fill_53178 5 = .ok (.iload_n 2, 1) := by decide +kernel
theorem dJ7_fill_53178_6 : decode cJ7_fill_53178 6 = .ok (.iload_n 3, 1) := by decide +kernel
theorem dJ7_fill_53178_7 : decode cJ7_fill_53178 7 = .ok (.if_icmp .ge 13, 3) := by decide +kernel
theorem dJ7_fill_53178_10 : decode cJ7_fill_53178 10 = .ok (.aload_n 0, 1) := by decide +kernel
theorem dJ7_fill_53178_11 : decode cJ7_fill_53178 11 = .ok (.iload_n 2, 1) := by decide +kernel
theorem dJ7_fill_53178_12 : decode cJ7_fill_53178 12 = .ok (.iload_n 1, 1) := by decide +kernel
theorem dJ7_fill_53178_13 : decode cJ7_fill_53178 13 = .ok (.iastore, 1) := by decide +kernel
theorem dJ7_fill_53178_14 : decode cJ7_fill_53178 14 = .ok (.iinc 2 1, 3) := by decide +kernel
theorem dJ7_fill_53178_17 : decode cJ7_fill_53178 17 = .ok (.goto (-12), 3) := by decide +kernel
theorem dJ7_fill_53178_20 : decode cJ7_fill_53178 20 = .ok (.return_, 1) := by decide +kernel
theorem dJ7_fill_fda19_0 : decode cJ7_fill_fda19 0 = .ok (.aload_n 0, 1) := by decide +kernel
theorem dJ7_fill_fda19_1 : decode cJ7_fill_fda19 1 = .ok (.arraylength, 1) := by decide +kernel
theorem dJ7_fill_fda19_2 : decode cJ7_fill_fda19 2 = .ok (.iload_n 1, 1) := by decide +kernel
theorem dJ7_fill_fda19_3 : decode cJ7_fill_fda19 3 = .ok (.iload_n 2, 1) := by decide +kernel
theorem dJ7_fill_fda19_4 : decode cJ7_fill_fda19 4 = .ok (.invokestatic 13, 3) := by decide +kernel
theorem dJ7_fill_fda19_7 : decode cJ7_fill_fda19 7 = .ok (.iload_n 1, 1) := by decide +kernel
theorem dJ7_fill_fda19_8 : decode cJ7_fill_fda19 8 = .ok (.istore 4, 2) := by decide +kernel
theorem dJ7_fill_fda19_10 : decode cJ7_fill_fda19 10 = .ok (.iload 4, 2) := by decide +kernel
theorem dJ7_fill_fda19_12 : decode cJ7_fill_fda19 12 = .ok (.iload_n 2, 1) := by decide +kernel
theorem dJ7_fill_fda19_13 : decode cJ7_fill_fda19 13 = .ok (.if_icmp .ge 14, 3) := by decide +kernel
theorem dJ7_fill_fda19_16 : decode cJ7_fill_fda19 16 = .ok (.aload_n 0, 1) := by decide +kernel
theorem dJ7_fill_fda19_17 : decode cJ7_fill_fda19 17 = .ok (.iload 4, 2) := by decide +kernel
theorem dJ7_fill_fda19_19 : decode cJ7_fill_fda19 19 = .ok (.iload_n 3, 1) := by decide +kernel
theorem dJ7_fill_fda19_20 : decode cJ7_fill_fda19 20 = .ok (.iastore, 1) := by decide +kernel
theorem dJ7_fill_fda19_21 : decode cJ7_fill_fda19 21 = .ok (.iinc 4 1, 3) := by decide +kernel
theorem dJ7_fill_fda19_24 : decode cJ7_fill_fda19 24 = .ok (.goto (-14), 3) := by decide +kernel
theorem dJ7_fill_fda19_27 : decode cJ7_fill_fda19 27 = .ok (.return_, 1) := by decide +kernel
end
section
theorem dJ9_max_7cf53_0 : decode cJ9_max_7cf53 0 = .ok (.iload_n 0, 1) := by decide +kernel
theorem dJ9_max_7cf53_1 : decode cJ9_max_7cf53 1 = .ok (.iload_n 1, 1) := by decide +kernel
theorem dJ9_max_7cf53_2 : decode cJ9_max_7cf53 2 = .ok (.if_icmp .lt 7, 3) := by decide +kernel
theorem dJ9_max_7cf53_5 : decode cJ9_max_7cf53 5 = .ok (.iload_n 0, 1) := by decide +kernel
theorem dJ9_max_7cf53_6 : decode cJ9_max_7cf53 6 = .ok (.goto 4, 3) := by decide +kernel
theorem dJ9_max_7cf53_9 : decode cJ9_max_7cf53 9 = .ok (.iload_n 1, 1) := by decide +kernel
theorem dJ9_max_7cf53_10 : decode cJ9_max_7cf53 10 = .ok (.ireturn, 1) := by decide +kernel
end
section
theorem dL_law_0 : decode cL_law 0 = .ok (.new 7, 3) := by decide +kernel
theorem dL_law_3 : decode cL_law 3 = .ok (.dup, 1) := by decide +kernel
theorem dL_law_4 : decode cL_law 4 = .ok (.invokespecial 9, 3) := by decide +kernel
theorem dL_law_7 : decode cL_law 7 = .ok (.astore_n 1, 1) := by decide +kernel
theorem dL_law_8 : decode cL_law 8 = .ok (.new 10, 3) := by decide +kernel
theorem dL_law_11 : decode cL_law 11 = .ok (.dup, 1) := by decide +kernel
theorem dL_law_12 : decode cL_law 12 = .ok (.invokespecial 12, 3) := by decide +kernel
theorem dL_law_15 : decode cL_law 15 = .ok (.astore_n 2, 1) := by decide +kernel
theorem dL_law_16 : decode cL_law 16 = .ok (.iconst 0, 1) := by decide +kernel
theorem dL_law_17 : decode cL_law 17 = .ok (.istore_n 3, 1) := by decide +kernel
theorem dL_law_18 : decode cL_law 18 = .ok (.iload_n 3, 1) := by decide +kernel
theorem dL_law_19 : decode cL_law 19 = .ok (.aload_n 0, 1) := by decide +kernel
theorem dL_law_20 : decode cL_law 20 = .ok (.arraylength, 1) := by decide +kernel
theorem dL_law_21 : decode cL_law 21 = .ok (.iconst 5, 1) := by decide +kernel
theorem dL_law_22 : decode cL_law 22 = .ok (.isub, 1) := by decide +kernel
theorem dL_law_23 : decode cL_law 23 = .ok (.if_icmp .gt 1004, 3) := by decide +kernel
theorem dL_law_26 : decode cL_law 26 = .ok (.aload_n 0, 1) := by decide +kernel
theorem dL_law_27 : decode cL_law 27 = .ok (.iload_n 3, 1) := by decide +kernel
theorem dL_law_28 : decode cL_law 28 = .ok (.iaload, 1) := by decide +kernel
theorem dL_law_29 : decode cL_law 29 = .ok (.bipush 31, 2) := by decide +kernel
theorem dL_law_31 : decode cL_law 31 = .ok (.iand, 1) := by decide +kernel
theorem dL_law_32 : decode cL_law 32 = .ok (.tableswitch 989 0 28 #[132, 155, 198, 241, 284, 337, 380, 403, 446, 479, 522, 545, 558, 571, 594, 607, 650, 683, 696, 749, 772, 785, 798, 841, 864, 897, 920, 943, 966], 132) := by decide +kernel
theorem dL_law_164 : decode cL_law 164 = .ok (.aload_n 1, 1) := by decide +kernel
theorem dL_law_165 : decode cL_law 165 = .ok (.aload_n 0, 1) := by decide +kernel
theorem dL_law_166 : decode cL_law 166 = .ok (.iload_n 3, 1) := by decide +kernel
theorem dL_law_167 : decode cL_law 167 = .ok (.iconst 1, 1) := by decide +kernel
theorem dL_law_168 : decode cL_law 168 = .ok (.iadd, 1) := by decide +kernel
theorem dL_law_169 : decode cL_law 169 = .ok (.iaload, 1) := by decide +kernel
theorem dL_law_170 : decode cL_law 170 = .ok (.invokevirtual 13, 3) := by decide +kernel
theorem dL_law_173 : decode cL_law 173 = .ok (.aload_n 2, 1) := by decide +kernel
theorem dL_law_174 : decode cL_law 174 = .ok (.aload_n 0, 1) := by decide +kernel
theorem dL_law_175 : decode cL_law 175 = .ok (.iload_n 3, 1) := by decide +kernel
theorem dL_law_176 : decode cL_law 176 = .ok (.iconst 1, 1) := by decide +kernel
theorem dL_law_177 : decode cL_law 177 = .ok (.iadd, 1) := by decide +kernel
theorem dL_law_178 : decode cL_law 178 = .ok (.iaload, 1) := by decide +kernel
theorem dL_law_179 : decode cL_law 179 = .ok (.invokevirtual 17, 3) := by decide +kernel
theorem dL_law_182 : decode cL_law 182 = .ok (.if_icmp .eq 839, 3) := by decide +kernel
theorem dL_law_185 : decode cL_law 185 = .ok (.iconst 0, 1) := by decide +kernel
theorem dL_law_186 : decode cL_law 186 = .ok (.ireturn, 1) := by decide +kernel
theorem dL_law_187 : decode cL_law 187 = .ok (.aload_n 1, 1) := by decide +kernel
theorem dL_law_188 : decode cL_law 188 = .ok (.aload_n 0, 1) := by decide +kernel
theorem dL_law_189 : decode cL_law 189 = .ok (.iload_n 3, 1) := by decide +kernel
theorem dL_law_190 : decode cL_law 190 = .ok (.iconst 1, 1) := by decide +kernel
theorem dL_law_191 : decode cL_law 191 = .ok (.iadd, 1) := by decide +kernel
theorem dL_law_192 : decode cL_law 192 = .ok (.iaload, 1) := by decide +kernel
theorem dL_law_193 : decode cL_law 193 = .ok (.aload_n 0, 1) := by decide +kernel
theorem dL_law_194 : decode cL_law 194 = .ok (.iload_n 3, 1) := by decide +kernel
theorem dL_law_195 : decode cL_law 195 = .ok (.iconst 2, 1) := by decide +kernel
theorem dL_law_196 : decode cL_law 196 = .ok (.iadd, 1) := by decide +kernel
theorem dL_law_197 : decode cL_law 197 = .ok (.iaload, 1) := by decide +kernel
theorem dL_law_198 : decode cL_law 198 = .ok (.aload_n 0, 1) := by decide +kernel
theorem dL_law_199 : decode cL_law 199 = .ok (.iload_n 3, 1) := by decide +kernel
theorem dL_law_200 : decode cL_law 200 = .ok (.iconst 3, 1) := by decide +kernel
theorem dL_law_201 : decode cL_law 201 = .ok (.iadd, 1) := by decide +kernel
theorem dL_law_202 : decode cL_law 202 = .ok (.iaload, 1) := by decide +kernel
theorem dL_law_203 : decode cL_law 203 = .ok (.invokevirtual 18, 3) := by decide +kernel
theorem dL_law_206 : decode cL_law 206 = .ok (.aload_n 2, 1) := by decide +kernel
theorem dL_law_207 : decode cL_law 207 = .ok (.aload_n 0, 1) := by decide +kernel
theorem dL_law_208 : decode cL_law 208 = .ok (.iload_n 3, 1) := by decide +kernel
theorem dL_law_209 : decode cL_law 209 = .ok (.iconst 1, 1) := by decide +kernel
theorem dL_law_210 : decode cL_law 210 = .ok (.iadd, 1) := by decide +kernel
theorem dL_law_211 : decode cL_law 211 = .ok (.iaload, 1) := by decide +kernel
theorem dL_law_212 : decode cL_law 212 = .ok (.aload_n 0, 1) := by decide +kernel
theorem dL_law_213 : decode cL_law 213 = .ok (.iload_n 3, 1) := by decide +kernel
theorem dL_law_214 : decode cL_law 214 = .ok (.iconst 2, 1) := by decide +kernel
theorem dL_law_215 : decode cL_law 215 = .ok (.iadd, 1) := by decide +kernel
theorem dL_law_216 : decode cL_law 216 = .ok (.iaload, 1) := by decide +kernel
theorem dL_law_217 : decode cL_law 217 = .ok (.aload_n 0, 1) := by decide +kernel
theorem dL_law_218 : decode cL_law 218 = .ok (.iload_n 3, 1) := by decide +kernel
theorem dL_law_219 : decode cL_law 219 = .ok (.iconst 3, 1) := by decide +kernel
theorem dL_law_220 : decode cL_law 220 = .ok (.iadd, 1) := by decide +kernel
theorem dL_law_221 : decode cL_law 221 = .ok (.iaload, 1) := by decide +kernel
theorem dL_law_222 : decode cL_law 222 = .ok (.invokevirtual 22, 3) := by decide +kernel
theorem dL_law_225 : decode cL_law 225 = .ok (.if_icmp .eq 796, 3) := by decide +kernel
theorem dL_law_228 : decode cL_law 228 = .ok (.iconst 0, 1) := by decide +kernel
theorem dL_law_229 : decode cL_law 229 = .ok (.ireturn, 1) := by decide +kernel
theorem dL_law_230 : decode cL_law 230 = .ok (.aload_n 1, 1) := by decide +kernel
theorem dL_law_231 : decode cL_law 231 = .ok (.aload_n 0, 1) := by decide +kernel
theorem dL_law_232 : decode cL_law 232 = .ok (.iload_n 3, 1) := by decide +kernel
theorem dL_law_233 : decode cL_law 233 = .ok (.iconst 1, 1) := by decide +kernel
theorem dL_law_234 : decode cL_law 234 = .ok (.iadd, 1) := by decide +kernel
theorem dL_law_235 : decode cL_law 235 = .ok (.iaload, 1) := by decide +kernel
theorem dL_law_236 : decode cL_law 236 = .ok (.aload_n 0, 1) := by decide +kernel
theorem dL_law_237 : decode cL_law 237 = .ok (.iload_n 3, 1) := by decide +kernel
theorem dL_law_238 : decode cL_law 238 = .ok (.iconst 2, 1) := by decide +kernel
theorem dL_law_239 : decode cL_law 239 = .ok (.iadd, 1) := by decide +kernel
theorem dL_law_240 : decode cL_law 240 = .ok (.iaload, 1) := by decide +kernel
theorem dL_law_241 : decode cL_law 241 = .ok (.aload_n 0, 1) := by decide +kernel
theorem dL_law_242 : decode cL_law 242 = .ok (.iload_n 3, 1) := by decide +kernel
theorem dL_law_243 : decode cL_law 243 = .ok (.iconst 3, 1) := by decide +kernel
theorem dL_law_244 : decode cL_law 244 = .ok (.iadd, 1) := by decide +kernel
theorem dL_law_245 : decode cL_law 245 = .ok (.iaload, 1) := by decide +kernel
theorem dL_law_246 : decode cL_law 246 = .ok (.invokevirtual 23, 3) := by decide +kernel
theorem dL_law_249 : decode cL_law 249 = .ok (.aload_n 2, 1) := by decide +kernel
theorem dL_law_250 : decode cL_law 250 = .ok (.aload_n 0, 1) := by decide +kernel
theorem dL_law_251 : decode cL_law 251 = .ok (.iload_n 3, 1) := by decide +kernel
theorem dL_law_252 : decode cL_law 252 = .ok (.iconst 1, 1) := by decide +kernel
theorem dL_law_253 : decode cL_law 253 = .ok (.iadd, 1) := by decide +kernel
theorem dL_law_254 : decode cL_law 254 = .ok (.iaload, 1) := by decide +kernel
theorem dL_law_255 : decode cL_law 255 = .ok (.aload_n 0, 1) := by decide +kernel
theorem dL_law_256 : decode cL_law 256 = .ok (.iload_n 3, 1) := by decide +kernel
theorem dL_law_257 : decode cL_law 257 = .ok (.iconst 2, 1) := by decide +kernel
theorem dL_law_258 : decode cL_law 258 = .ok (.iadd, 1) := by decide +kernel
theorem dL_law_259 : decode cL_law 259 = .ok (.iaload, 1) := by decide +kernel
theorem dL_law_260 : decode cL_law 260 = .ok (.aload_n 0, 1) := by decide +kernel
theorem dL_law_261 : decode cL_law 261 = .ok (.iload_n 3, 1) := by decide +kernel
theorem dL_law_262 : decode cL_law 262 = .ok (.iconst 3, 1) := by decide +kernel
theorem dL_law_263 : decode cL_law 263 = .ok (.iadd, 1) := by decide +kernel
theorem dL_law_264 : decode cL_law 264 = .ok (.iaload, 1) := by decide +kernel
theorem dL_law_265 : decode cL_law 265 = .ok (.invokevirtual 26, 3) := by decide +kernel
theorem dL_law_268 : decode cL_law 268 = .ok (.if_icmp .eq 753, 3) := by decide +kernel
theorem dL_law_271 : decode cL_law 271 = .ok (.iconst 0, 1) := by decide +kernel
theorem dL_law_272 : decode cL_law 272 = .ok (.ireturn, 1) := by decide +kernel
theorem dL_law_273 : decode cL_law 273 = .ok (.aload_n 1, 1) := by decide +kernel
theorem dL_law_274 : decode cL_law 274 = .ok (.aload_n 0, 1) := by decide +kernel
theorem dL_law_275 : decode cL_law 275 = .ok (.iload_n 3, 1) := by decide +kernel
theorem dL_law_276 : decode cL_law 276 = .ok (.iconst 1, 1) := by decide +kernel
theorem dL_law_277 : decode cL_law 277 = .ok (.iadd, 1) := by decide +kernel
theorem dL_law_278 : decode cL_law 278 = .ok (.iaload, 1) := by decide +kernel
theorem dL_law_279 : decode cL_law 279 = .ok (.aload_n 0, 1) := by decide +kernel
theorem dL_law_280 : decode cL_law 280 = .ok (.iload_n 3, 1) := by decide +kernel
theorem dL_law_281 : decode cL_law 281 = .ok (.iconst 2, 1) := by decide +kernel
theorem dL_law_282 : decode cL_law 282 = .ok (.iadd, 1) := by decide +kernel
theorem dL_law_283 : decode cL_law 283 = .ok (.iaload, 1) := by decide +kernel
theorem dL_law_284 : decode cL_law 284 = .ok (.aload_n 0, 1) := by decide +kernel
theorem dL_law_285 : decode cL_law 285 = .ok (.iload_n 3, 1) := by decide +kernel
theorem dL_law_286 : decode cL_law 286 = .ok (.iconst 3, 1) := by decide +kernel
theorem dL_law_287 : decode cL_law 287 = .ok (.iadd, 1) := by decide +kernel
theorem dL_law_288 : decode cL_law 288 = .ok (.iaload, 1) := by decide +kernel
theorem dL_law_289 : decode cL_law 289 = .ok (.invokevirtual 27, 3) := by decide +kernel
theorem dL_law_292 : decode cL_law 292 = .ok (.aload_n 2, 1) := by decide +kernel
theorem dL_law_293 : decode cL_law 293 = .ok (.aload_n 0, 1) := by decide +kernel
theorem dL_law_294 : decode cL_law 294 = .ok (.iload_n 3, 1) := by decide +kernel
theorem dL_law_295 : decode cL_law 295 = .ok (.iconst 1, 1) := by decide +kernel
theorem dL_law_296 : decode cL_law 296 = .ok (.iadd, 1) := by decide +kernel
theorem dL_law_297 : decode cL_law 297 = .ok (.iaload, 1) := by decide +kernel
theorem dL_law_298 : decode cL_law 298 = .ok (.aload_n 0, 1) := by decide +kernel
theorem dL_law_299 : decode cL_law 299 = .ok (.iload_n 3, 1) := by decide +kernel
theorem dL_law_300 : decode cL_law 300 = .ok (.iconst 2, 1) := by decide +kernel
theorem dL_law_301 : decode cL_law 301 = .ok (.iadd, 1) := by decide +kernel
theorem dL_law_302 : decode cL_law 302 = .ok (.iaload, 1) := by decide +kernel
theorem dL_law_303 : decode cL_law 303 = .ok (.aload_n 0, 1) := by decide +kernel
theorem dL_law_304 : decode cL_law 304 = .ok (.iload_n 3, 1) := by decide +kernel
theorem dL_law_305 : decode cL_law 305 = .ok (.iconst 3, 1) := by decide +kernel
theorem dL_law_306 : decode cL_law 306 = .ok (.iadd, 1) := by decide +kernel
theorem dL_law_307 : decode cL_law 307 = .ok (.iaload, 1) := by decide +kernel
theorem dL_law_308 : decode cL_law 308 = .ok (.invokevirtual 30, 3) := by decide +kernel
theorem dL_law_311 : decode cL_law 311 = .ok (.if_icmp .eq 710, 3) := by decide +kernel
theorem dL_law_314 : decode cL_law 314 = .ok (.iconst 0, 1) := by decide +kernel
theorem dL_law_315 : decode cL_law 315 = .ok (.ireturn, 1) := by decide +kernel
theorem dL_law_316 : decode cL_law 316 = .ok (.aload_n 1, 1) := by decide +kernel
theorem dL_law_317 : decode cL_law 317 = .ok (.aload_n 0, 1) := by decide +kernel
theorem dL_law_318 : decode cL_law 318 = .ok (.iload_n 3, 1) := by decide +kernel
theorem dL_law_319 : decode cL_law 319 = .ok (.iconst 1, 1) := by decide +kernel
theorem dL_law_320 : decode cL_law 320 = .ok (.iadd, 1) := by decide +kernel
theorem dL_law_321 : decode cL_law 321 = .ok (.iaload, 1) := by decide +kernel
theorem dL_law_322 : decode cL_law 322 = .ok (.aload_n 0, 1) := by decide +kernel
theorem dL_law_323 : decode cL_law 323 = .ok (.iload_n 3, 1) := by decide +kernel
theorem dL_law_324 : decode cL_law 324 = .ok (.iconst 2, 1) := by decide +kernel
theorem dL_law_325 : decode cL_law 325 = .ok (.iadd, 1) := by decide +kernel
theorem dL_law_326 : decode cL_law 326 = .ok (.iaload, 1) := by decide +kernel
theorem dL_law_327 : decode cL_law 327 = .ok (.aload_n 0, 1) := by decide +kernel
theorem dL_law_328 : decode cL_law 328 = .ok (.iload_n 3, 1) := by decide +kernel
theorem dL_law_329 : decode cL_law 329 = .ok (.iconst 3, 1) := by decide +kernel
theorem dL_law_330 : decode cL_law 330 = .ok (.iadd, 1) := by decide +kernel
theorem dL_law_331 : decode cL_law 331 = .ok (.iaload, 1) := by decide +kernel
theorem dL_law_332 : decode cL_law 332 = .ok (.aload_n 0, 1) := by decide +kernel
theorem dL_law_333 : decode cL_law 333 = .ok (.iload_n 3, 1) := by decide +kernel
theorem dL_law_334 : decode cL_law 334 = .ok (.iconst 4, 1) := by decide +kernel
theorem dL_law_335 : decode cL_law 335 = .ok (.iadd, 1) := by decide +kernel
theorem dL_law_336 : decode cL_law 336 = .ok (.iaload, 1) := by decide +kernel
theorem dL_law_337 : decode cL_law 337 = .ok (.invokevirtual 31, 3) := by decide +kernel
theorem dL_law_340 : decode cL_law 340 = .ok (.aload_n 2, 1) := by decide +kernel
theorem dL_law_341 : decode cL_law 341 = .ok (.aload_n 0, 1) := by decide +kernel
theorem dL_law_342 : decode cL_law 342 = .ok (.iload_n 3, 1) := by decide +kernel
theorem dL_law_343 : decode cL_law 343 = .ok (.iconst 1, 1) := by decide +kernel
theorem dL_law_344 : decode cL_law 344 = .ok (.iadd, 1) := by decide +kernel
theorem dL_law_345 : decode cL_law 345 = .ok (.iaload, 1) := by decide +kernel
theorem dL_law_346 : decode cL_law 346 = .ok (.aload_n 0, 1) := by decide +kernel
theorem dL_law_347 : decode cL_law 347 = .ok (.iload_n 3, 1) := by decide +kernel
theorem dL_law_348 : decode cL_law 348 = .ok (.iconst 2, 1) := by decide +kernel
theorem dL_law_349 : decode cL_law 349 = .ok (.iadd, 1) := by decide +kernel
theorem dL_law_350 : decode cL_law 350 = .ok (.iaload, 1) := by decide +kernel
theorem dL_law_351 : decode cL_law 351 = .ok (.aload_n 0, 1) := by decide +kernel
theorem dL_law_352 : decode cL_law 352 = .ok (.iload_n 3, 1) := by decide +kernel
theorem dL_law_353 : decode cL_law 353 = .ok (.iconst 3, 1) := by decide +kernel
theorem dL_law_354 : decode cL_law 354 = .ok (.iadd, 1) := by decide +kernel
theorem dL_law_355 : decode cL_law 355 = .ok (.iaload, 1) := by decide +kernel
theorem dL_law_356 : decode cL_law 356 = .ok (.aload_n 0, 1) := by decide +kernel
theorem dL_law_357 : decode cL_law 357 = .ok (.iload_n 3, 1) := by decide +kernel
theorem dL_law_358 : decode cL_law 358 = .ok (.iconst 4, 1) := by decide +kernel
theorem dL_law_359 : decode cL_law 359 = .ok (.iadd, 1) := by decide +kernel
theorem dL_law_360 : decode cL_law 360 = .ok (.iaload, 1) := by decide +kernel
theorem dL_law_361 : decode cL_law 361 = .ok (.invokevirtual 35, 3) := by decide +kernel
theorem dL_law_364 : decode cL_law 364 = .ok (.if_icmp .eq 657, 3) := by decide +kernel
theorem dL_law_367 : decode cL_law 367 = .ok (.iconst 0, 1) := by decide +kernel
theorem dL_law_368 : decode cL_law 368 = .ok (.ireturn, 1) := by decide +kernel
theorem dL_law_369 : decode cL_law 369 = .ok (.aload_n 1, 1) := by decide +kernel
theorem dL_law_370 : decode cL_law 370 = .ok (.aload_n 0, 1) := by decide +kernel
theorem dL_law_371 : decode cL_law 371 = .ok (.iload_n 3, 1) := by decide +kernel
theorem dL_law_372 : decode cL_law 372 = .ok (.iconst 1, 1) := by decide +kernel
theorem dL_law_373 : decode cL_law 373 = .ok (.iadd, 1) := by decide +kernel
theorem dL_law_374 : decode cL_law 374 = .ok (.iaload, 1) := by decide +kernel
theorem dL_law_375 : decode cL_law 375 = .ok (.aload_n 0, 1) := by decide +kernel
theorem dL_law_376 : decode cL_law 376 = .ok (.iload_n 3, 1) := by decide +kernel
theorem dL_law_377 : decode cL_law 377 = .ok (.iconst 2, 1) := by decide +kernel
theorem dL_law_378 : decode cL_law 378 = .ok (.iadd, 1) := by decide +kernel
theorem dL_law_379 : decode cL_law 379 = .ok (.iaload, 1) := by decide +kernel
theorem dL_law_380 : decode cL_law 380 = .ok (.aload_n 0, 1) := by decide +kernel
theorem dL_law_381 : decode cL_law 381 = .ok (.iload_n 3, 1) := by decide +kernel
theorem dL_law_382 : decode cL_law 382 = .ok (.iconst 3, 1) := by decide +kernel
theorem dL_law_383 : decode cL_law 383 = .ok (.iadd, 1) := by decide +kernel
theorem dL_law_384 : decode cL_law 384 = .ok (.iaload, 1) := by decide +kernel
theorem dL_law_385 : decode cL_law 385 = .ok (.invokevirtual 36, 3) := by decide +kernel
theorem dL_law_388 : decode cL_law 388 = .ok (.aload_n 2, 1) := by decide +kernel
theorem dL_law_389 : decode cL_law 389 = .ok (.aload_n 0, 1) := by decide +kernel
theorem dL_law_390 : decode cL_law 390 = .ok (.iload_n 3, 1) := by decide +kernel
theorem dL_law_391 : decode cL_law 391 = .ok (.iconst 1, 1) := by decide +kernel
theorem dL_law_392 : decode cL_law 392 = .ok (.iadd, 1) := by decide +kernel
theorem dL_law_393 : decode cL_law 393 = .ok (.iaload, 1) := by decide +kernel
theorem dL_law_394 : decode cL_law 394 = .ok (.aload_n 0, 1) := by decide +kernel
theorem dL_law_395 : decode cL_law 395 = .ok (.iload_n 3, 1) := by decide +kernel
theorem dL_law_396 : decode cL_law 396 = .ok (.iconst 2, 1) := by decide +kernel
theorem dL_law_397 : decode cL_law 397 = .ok (.iadd, 1) := by decide +kernel
theorem dL_law_398 : decode cL_law 398 = .ok (.iaload, 1) := by decide +kernel
theorem dL_law_399 : decode cL_law 399 = .ok (.aload_n 0, 1) := by decide +kernel
theorem dL_law_400 : decode cL_law 400 = .ok (.iload_n 3, 1) := by decide +kernel
theorem dL_law_401 : decode cL_law 401 = .ok (.iconst 3, 1) := by decide +kernel
theorem dL_law_402 : decode cL_law 402 = .ok (.iadd, 1) := by decide +kernel
theorem dL_law_403 : decode cL_law 403 = .ok (.iaload, 1) := by decide +kernel
theorem dL_law_404 : decode cL_law 404 = .ok (.invokevirtual 39, 3) := by decide +kernel
theorem dL_law_407 : decode cL_law 407 = .ok (.if_icmp .eq 614, 3) := by decide +kernel
theorem dL_law_410 : decode cL_law 410 = .ok (.iconst 0, 1) := by decide +kernel
theorem dL_law_411 : decode cL_law 411 = .ok (.ireturn, 1) := by decide +kernel
theorem dL_law_412 : decode cL_law 412 = .ok (.aload_n 1, 1) := by decide +kernel
theorem dL_law_413 : decode cL_law 413 = .ok (.aload_n 0, 1) := by decide +kernel
theorem dL_law_414 : decode cL_law 414 = .ok (.iload_n 3, 1) := by decide +kernel
theorem dL_law_415 : decode cL_law 415 = .ok (.iconst 1, 1) := by decide +kernel
theorem dL_law_416 : decode cL_law 416 = .ok (.iadd, 1) := by decide +kernel
theorem dL_law_417 : decode cL_law 417 = .ok (.iaload, 1) := by decide +kernel
theorem dL_law_418 : decode cL_law 418 = .ok (.invokevirtual 40, 3) := by decide +kernel
theorem dL_law_421 : decode cL_law 421 = .ok (.aload_n 2, 1) := by decide +kernel
theorem dL_law_422 : decode cL_law 422 = .ok (.aload_n 0, 1) := by decide +kernel
theorem dL_law_423 : decode cL_law 423 = .ok (.iload_n 3, 1) := by decide +kernel
theorem dL_law_424 : decode cL_law 424 = .ok (.iconst 1, 1) := by decide +kernel
theorem dL_law_425 : decode cL_law 425 = .ok (.iadd, 1) := by decide +kernel
theorem dL_law_426 : decode cL_law 426 = .ok (.iaload, 1) := by decide +kernel
theorem dL_law_427 : decode cL_law 427 = .ok (.invokevirtual 43, 3) := by decide +kernel
theorem dL_law_430 : decode cL_law 430 = .ok (.if_icmp .eq 591, 3) := by decide +kernel
theorem dL_law_433 : decode cL_law 433 = .ok (.iconst 0, 1) := by decide +kernel
theorem dL_law_434 : decode cL_law 434 = .ok (.ireturn, 1) := by decide +kernel
theorem dL_law_435 : decode cL_law 435 = .ok (.aload_n 1, 1) := by decide +kernel
theorem dL_law_436 : decode cL_law 436 = .ok (.aload_n 0, 1) := by decide +kernel
theorem dL_law_437 : decode cL_law 437 = .ok (.iload_n 3, 1) := by decide +kernel
theorem dL_law_438 : decode cL_law 438 = .ok (.iconst 1, 1) := by decide +kernel
theorem dL_law_439 : decode cL_law 439 = .ok (.iadd, 1) := by decide +kernel
theorem dL_law_440 : decode cL_law 440 = .ok (.iaload, 1) := by decide +kernel
theorem dL_law_441 : decode cL_law 441 = .ok (.aload_n 0, 1) := by decide +kernel
theorem dL_law_442 : decode cL_law 442 = .ok (.iload_n 3, 1) := by decide +kernel
theorem dL_law_443 : decode cL_law 443 = .ok (.iconst 2, 1) := by decide +kernel
theorem dL_law_444 : decode cL_law 444 = .ok (.iadd, 1) := by decide +kernel
theorem dL_law_445 : decode cL_law 445 = .ok (.iaload, 1) := by decide +kernel
theorem dL_law_446 : decode cL_law 446 = .ok (.aload_n 0, 1) := by decide +kernel
theorem dL_law_447 : decode cL_law 447 = .ok (.iload_n 3, 1) := by decide +kernel
theorem dL_law_448 : decode cL_law 448 = .ok (.iconst 3, 1) := by decide +kernel
theorem dL_law_449 : decode cL_law 449 = .ok (.iadd, 1) := by decide +kernel
theorem dL_law_450 : decode cL_law 450 = .ok (.iaload, 1) := by decide +kernel
theorem dL_law_451 : decode cL_law 451 = .ok (.invokevirtual 44, 3) := by decide +kernel
theorem dL_law_454 : decode cL_law 454 = .ok (.aload_n 2, 1) := by decide +kernel
theorem dL_law_455 : decode cL_law 455 = .ok (.aload_n 0, 1) := by decide +kernel
theorem dL_law_456 : decode cL_law 456 = .ok (.iload_n 3, 1) := by decide +kernel
theorem dL_law_457 : decode cL_law 457 = .ok (.iconst 1, 1) := by decide +kernel
theorem dL_law_458 : decode cL_law 458 = .ok (.iadd, 1) := by decide +kernel
theorem dL_law_459 : decode cL_law 459 = .ok (.iaload, 1) := by decide +kernel
theorem dL_law_460 : decode cL_law 460 = .ok (.aload_n 0, 1) := by decide +kernel
theorem dL_law_461 : decode cL_law 461 = .ok (.iload_n 3, 1) := by decide +kernel
theorem dL_law_462 : decode cL_law 462 = .ok (.iconst 2, 1) := by decide +kernel
theorem dL_law_463 : decode cL_law 463 = .ok (.iadd, 1) := by decide +kernel
theorem dL_law_464 : decode cL_law 464 = .ok (.iaload, 1) := by decide +kernel
theorem dL_law_465 : decode cL_law 465 = .ok (.aload_n 0, 1) := by decide +kernel
theorem dL_law_466 : decode cL_law 466 = .ok (.iload_n 3, 1) := by decide +kernel
theorem dL_law_467 : decode cL_law 467 = .ok (.iconst 3, 1) := by decide +kernel
theorem dL_law_468 : decode cL_law 468 = .ok (.iadd, 1) := by decide +kernel
theorem dL_law_469 : decode cL_law 469 = .ok (.iaload, 1) := by decide +kernel
theorem dL_law_470 : decode cL_law 470 = .ok (.invokevirtual 47, 3) := by decide +kernel
theorem dL_law_473 : decode cL_law 473 = .ok (.if_icmp .eq 548, 3) := by decide +kernel
theorem dL_law_476 : decode cL_law 476 = .ok (.iconst 0, 1) := by decide +kernel
theorem dL_law_477 : decode cL_law 477 = .ok (.ireturn, 1) := by decide +kernel
theorem dL_law_478 : decode cL_law 478 = .ok (.aload_n 1, 1) := by decide +kernel
theorem dL_law_479 : decode cL_law 479 = .ok (.aload_n 0, 1) := by decide +kernel
theorem dL_law_480 : decode cL_law 480 = .ok (.iload_n 3, 1) := by decide +kernel
theorem dL_law_481 : decode cL_law 481 = .ok (.iconst 1, 1) := by decide +kernel
theorem dL_law_482 : decode cL_law 482 = .ok (.iadd, 1) := by decide +kernel
theorem dL_law_483 : decode cL_law 483 = .ok (.iaload, 1) := by decide +kernel
theorem dL_law_484 : decode cL_law 484 = .ok (.aload_n 0, 1) := by decide +kernel
theorem dL_law_485 : decode cL_law 485 = .ok (.iload_n 3, 1) := by decide +kernel
theorem dL_law_486 : decode cL_law 486 = .ok (.iconst 2, 1) := by decide +kernel
theorem dL_law_487 : decode cL_law 487 = .ok (.iadd, 1) := by decide +kernel
theorem dL_law_488 : decode cL_law 488 = .ok (.iaload, 1) := by decide +kernel
theorem dL_law_489 : decode cL_law 489 = .ok (.invokevirtual 48, 3) := by decide +kernel
theorem dL_law_492 : decode cL_law 492 = .ok (.aload_n 2, 1) := by decide +kernel
theorem dL_law_493 : decode cL_law 493 = .ok (.aload_n 0, 1) := by decide +kernel
theorem dL_law_494 : decode cL_law 494 = .ok (.iload_n 3, 1) := by decide +kernel
theorem dL_law_495 : decode cL_law 495 = .ok (.iconst 1, 1) := by decide +kernel
theorem dL_law_496 : decode cL_law 496 = .ok (.iadd, 1) := by decide +kernel
theorem dL_law_497 : decode cL_law 497 = .ok (.iaload, 1) := by decide +kernel
theorem dL_law_498 : decode cL_law 498 = .ok (.aload_n 0, 1) := by decide +kernel
theorem dL_law_499 : decode cL_law 499 = .ok (.iload_n 3, 1) := by decide +kernel
theorem dL_law_500 : decode cL_law 500 = .ok (.iconst 2, 1) := by decide +kernel
theorem dL_law_501 : decode cL_law 501 = .ok (.iadd, 1) := by decide +kernel
theorem dL_law_502 : decode cL_law 502 = .ok (.iaload, 1) := by decide +kernel
theorem dL_law_503 : decode cL_law 503 = .ok (.invokevirtual 52, 3) := by decide +kernel
theorem dL_law_506 : decode cL_law 506 = .ok (.if_icmp .eq 515, 3) := by decide +kernel
theorem dL_law_509 : decode cL_law 509 = .ok (.iconst 0, 1) := by decide +kernel
theorem dL_law_510 : decode cL_law 510 = .ok (.ireturn, 1) := by decide +kernel
theorem dL_law_511 : decode cL_law 511 = .ok (.aload_n 1, 1) := by decide +kernel
theorem dL_law_512 : decode cL_law 512 = .ok (.aload_n 0, 1) := by decide +kernel
theorem dL_law_513 : decode cL_law 513 = .ok (.iload_n 3, 1) := by decide +kernel
theorem dL_law_514 : decode cL_law 514 = .ok (.iconst 1, 1) := by decide +kernel
theorem dL_law_515 : decode cL_law 515 = .ok (.iadd, 1) := by decide +kernel
theorem dL_law_516 : decode cL_law 516 = .ok (.iaload, 1) := by decide +kernel
theorem dL_law_517 : decode cL_law 517 = .ok (.aload_n 0, 1) := by decide +kernel
theorem dL_law_518 : decode cL_law 518 = .ok (.iload_n 3, 1) := by decide +kernel
theorem dL_law_519 : decode cL_law 519 = .ok (.iconst 2, 1) := by decide +kernel
theorem dL_law_520 : decode cL_law 520 = .ok (.iadd, 1) := by decide +kernel
theorem dL_law_521 : decode cL_law 521 = .ok (.iaload, 1) := by decide +kernel
theorem dL_law_522 : decode cL_law 522 = .ok (.aload_n 0, 1) := by decide +kernel
theorem dL_law_523 : decode cL_law 523 = .ok (.iload_n 3, 1) := by decide +kernel
theorem dL_law_524 : decode cL_law 524 = .ok (.iconst 3, 1) := by decide +kernel
theorem dL_law_525 : decode cL_law 525 = .ok (.iadd, 1) := by decide +kernel
theorem dL_law_526 : decode cL_law 526 = .ok (.iaload, 1) := by decide +kernel
theorem dL_law_527 : decode cL_law 527 = .ok (.invokevirtual 53, 3) := by decide +kernel
theorem dL_law_530 : decode cL_law 530 = .ok (.aload_n 2, 1) := by decide +kernel
theorem dL_law_531 : decode cL_law 531 = .ok (.aload_n 0, 1) := by decide +kernel
theorem dL_law_532 : decode cL_law 532 = .ok (.iload_n 3, 1) := by decide +kernel
theorem dL_law_533 : decode cL_law 533 = .ok (.iconst 1, 1) := by decide +kernel
theorem dL_law_534 : decode cL_law 534 = .ok (.iadd, 1) := by decide +kernel
theorem dL_law_535 : decode cL_law 535 = .ok (.iaload, 1) := by decide +kernel
theorem dL_law_536 : decode cL_law 536 = .ok (.aload_n 0, 1) := by decide +kernel
theorem dL_law_537 : decode cL_law 537 = .ok (.iload_n 3, 1) := by decide +kernel
theorem dL_law_538 : decode cL_law 538 = .ok (.iconst 2, 1) := by decide +kernel
theorem dL_law_539 : decode cL_law 539 = .ok (.iadd, 1) := by decide +kernel
theorem dL_law_540 : decode cL_law 540 = .ok (.iaload, 1) := by decide +kernel
theorem dL_law_541 : decode cL_law 541 = .ok (.aload_n 0, 1) := by decide +kernel
theorem dL_law_542 : decode cL_law 542 = .ok (.iload_n 3, 1) := by decide +kernel
theorem dL_law_543 : decode cL_law 543 = .ok (.iconst 3, 1) := by decide +kernel
theorem dL_law_544 : decode cL_law 544 = .ok (.iadd, 1) := by decide +kernel
theorem dL_law_545 : decode cL_law 545 = .ok (.iaload, 1) := by decide +kernel
theorem dL_law_546 : decode cL_law 546 = .ok (.invokevirtual 56, 3) := by decide +kernel
theorem dL_law_549 : decode cL_law 549 = .ok (.if_icmp .eq 472, 3) := by decide +kernel
theorem dL_law_552 : decode cL_law 552 = .ok (.iconst 0, 1) := by decide +kernel
theorem dL_law_553 : decode cL_law 553 = .ok (.ireturn, 1) := by decide +kernel
theorem dL_law_554 : decode cL_law 554 = .ok (.aload_n 1, 1) := by decide +kernel
theorem dL_law_555 : decode cL_law 555 = .ok (.aload_n 0, 1) := by decide +kernel
theorem dL_law_556 : decode cL_law 556 = .ok (.iload_n 3, 1) := by decide +kernel
theorem dL_law_557 : decode cL_law 557 = .ok (.iconst 1, 1) := by decide +kernel
theorem dL_law_558 : decode cL_law 558 = .ok (.iadd, 1) := by decide +kernel
theorem dL_law_559 : decode cL_law 559 = .ok (.iaload, 1) := by decide +kernel
theorem dL_law_560 : decode cL_law 560 = .ok (.invokevirtual 57, 3) := by decide +kernel
theorem dL_law_563 : decode cL_law 563 = .ok (.aload_n 2, 1) := by decide +kernel
theorem dL_law_564 : decode cL_law 564 = .ok (.aload_n 0, 1) := by decide +kernel
theorem dL_law_565 : decode cL_law 565 = .ok (.iload_n 3, 1) := by decide +kernel
theorem dL_law_566 : decode cL_law 566 = .ok (.iconst 1, 1) := by decide +kernel
theorem dL_law_567 : decode cL_law 567 = .ok (.iadd, 1) := by decide +kernel
theorem dL_law_568 : decode cL_law 568 = .ok (.iaload, 1) := by decide +kernel
theorem dL_law_569 : decode cL_law 569 = .ok (.invokevirtual 60, 3) := by decide +kernel
theorem dL_law_572 : decode cL_law 572 = .ok (.if_icmp .eq 449, 3) := by decide +kernel
theorem dL_law_575 : decode cL_law 575 = .ok (.iconst 0, 1) := by decide +kernel
theorem dL_law_576 : decode cL_law 576 = .ok (.ireturn, 1) := by decide +kernel
theorem dL_law_577 : decode cL_law 577 = .ok (.aload_n 1, 1) := by decide +kernel
theorem dL_law_578 : decode cL_law 578 = .ok (.invokevirtual 61, 3) := by decide +kernel
theorem dL_law_581 : decode cL_law 581 = .ok (.aload_n 2, 1) := by decide +kernel
theorem dL_law_582 : decode cL_law 582 = .ok (.invokevirtual 65, 3) := by decide +kernel
theorem dL_law_585 : decode cL_law 585 = .ok (.if_icmp .eq 436, 3) := by decide +kernel
theorem dL_law_588 : decode cL_law 588 = .ok (.iconst 0, 1) := by decide +kernel
theorem dL_law_589 : decode cL_law 589 = .ok (.ireturn, 1) := by decide +kernel
theorem dL_law_590 : decode cL_law 590 = .ok (.aload_n 1, 1) := by decide +kernel
theorem dL_law_591 : decode cL_law 591 = .ok (.invokevirtual 66, 3) := by decide +kernel
theorem dL_law_594 : decode cL_law 594 = .ok (.aload_n 2, 1) := by decide +kernel
theorem dL_law_595 : decode cL_law 595 = .ok (.invokevirtual 70, 3) := by decide +kernel
theorem dL_law_598 : decode cL_law 598 = .ok (.if_icmp .eq 423, 3) := by decide +kernel
theorem dL_law_601 : decode cL_law 601 = .ok (.iconst 0, 1) := by decide +kernel
theorem dL_law_602 : decode cL_law 602 = .ok (.ireturn, 1) := by decide +kernel
theorem dL_law_603 : decode cL_law 603 = .ok (.aload_n 1, 1) := by decide +kernel
theorem dL_law_604 : decode cL_law 604 = .ok (.aload_n 0, 1) := by decide +kernel
theorem dL_law_605 : decode cL_law 605 = .ok (.iload_n 3, 1) := by decide +kernel
theorem dL_law_606 : decode cL_law 606 = .ok (.iconst 1, 1) := by decide +kernel
theorem dL_law_607 : decode cL_law 607 = .ok (.iadd, 1) := by decide +kernel
theorem dL_law_608 : decode cL_law 608 = .ok (.iaload, 1) := by decide +kernel
theorem dL_law_609 : decode cL_law 609 = .ok (.invokevirtual 71, 3) := by decide +kernel
theorem dL_law_612 : decode cL_law 612 = .ok (.aload_n 2, 1) := by decide +kernel
theorem dL_law_613 : decode cL_law 613 = .ok (.aload_n 0, 1) := by decide +kernel
theorem dL_law_614 : decode cL_law 614 = .ok (.iload_n 3, 1) := by decide +kernel
theorem dL_law_615 : decode cL_law 615 = .ok (.iconst 1, 1) := by decide +kernel
theorem dL_law_616 : decode cL_law 616 = .ok (.iadd, 1) := by decide +kernel
theorem dL_law_617 : decode cL_law 617 = .ok (.iaload, 1) := by decide +kernel
theorem dL_law_618 : decode cL_law 618 = .ok (.invokevirtual 74, 3) := by decide +kernel
theorem dL_law_621 : decode cL_law 621 = .ok (.if_icmp .eq 400, 3) := by decide +kernel
theorem dL_law_624 : decode cL_law 624 = .ok (.iconst 0, 1) := by decide +kernel
theorem dL_law_625 : decode cL_law 625 = .ok (.ireturn, 1) := by decide +kernel
theorem dL_law_626 : decode cL_law 626 = .ok (.aload_n 1, 1) := by decide +kernel
theorem dL_law_627 : decode cL_law 627 = .ok (.invokevirtual 75, 3) := by decide +kernel
theorem dL_law_630 : decode cL_law 630 = .ok (.aload_n 2, 1) := by decide +kernel
theorem dL_law_631 : decode cL_law 631 = .ok (.invokevirtual 78, 3) := by decide +kernel
theorem dL_law_634 : decode cL_law 634 = .ok (.if_icmp .eq 387, 3) := by decide +kernel
theorem dL_law_637 : decode cL_law 637 = .ok (.iconst 0, 1) := by decide +kernel
theorem dL_law_638 : decode cL_law 638 = .ok (.ireturn, 1) := by decide +kernel
theorem dL_law_639 : decode cL_law 639 = .ok (.aload_n 1, 1) := by decide +kernel
theorem dL_law_640 : decode cL_law 640 = .ok (.aload_n 0, 1) := by decide +kernel
theorem dL_law_641 : decode cL_law 641 = .ok (.iload_n 3, 1) := by decide +kernel
theorem dL_law_642 : decode cL_law 642 = .ok (.iconst 1, 1) := by decide +kernel
theorem dL_law_643 : decode cL_law 643 = .ok (.iadd, 1) := by decide +kernel
theorem dL_law_644 : decode cL_law 644 = .ok (.iaload, 1) := by decide +kernel
theorem dL_law_645 : decode cL_law 645 = .ok (.aload_n 0, 1) := by decide +kernel
theorem dL_law_646 : decode cL_law 646 = .ok (.iload_n 3, 1) := by decide +kernel
theorem dL_law_647 : decode cL_law 647 = .ok (.iconst 2, 1) := by decide +kernel
theorem dL_law_648 : decode cL_law 648 = .ok (.iadd, 1) := by decide +kernel
theorem dL_law_649 : decode cL_law 649 = .ok (.iaload, 1) := by decide +kernel
theorem dL_law_650 : decode cL_law 650 = .ok (.aload_n 0, 1) := by decide +kernel
theorem dL_law_651 : decode cL_law 651 = .ok (.iload_n 3, 1) := by decide +kernel
theorem dL_law_652 : decode cL_law 652 = .ok (.iconst 3, 1) := by decide +kernel
theorem dL_law_653 : decode cL_law 653 = .ok (.iadd, 1) := by decide +kernel
theorem dL_law_654 : decode cL_law 654 = .ok (.iaload, 1) := by decide +kernel
theorem dL_law_655 : decode cL_law 655 = .ok (.invokevirtual 79, 3) := by decide +kernel
theorem dL_law_658 : decode cL_law 658 = .ok (.aload_n 2, 1) := by decide +kernel
theorem dL_law_659 : decode cL_law 659 = .ok (.aload_n 0, 1) := by decide +kernel
theorem dL_law_660 : decode cL_law 660 = .ok (.iload_n 3, 1) := by decide +kernel
theorem dL_law_661 : decode cL_law 661 = .ok (.iconst 1, 1) := by decide +kernel
theorem dL_law_662 : decode cL_law 662 = .ok (.iadd, 1) := by decide +kernel
theorem dL_law_663 : decode cL_law 663 = .ok (.iaload, 1) := by decide +kernel
theorem dL_law_664 : decode cL_law 664 = .ok (.aload_n 0, 1) := by decide +kernel
theorem dL_law_665 : decode cL_law 665 = .ok (.iload_n 3, 1) := by decide +kernel
theorem dL_law_666 : decode cL_law 666 = .ok (.iconst 2, 1) := by decide +kernel
theorem dL_law_667 : decode cL_law 667 = .ok (.iadd, 1) := by decide +kernel
theorem dL_law_668 : decode cL_law 668 = .ok (.iaload, 1) := by decide +kernel
theorem dL_law_669 : decode cL_law 669 = .ok (.aload_n 0, 1) := by decide +kernel
theorem dL_law_670 : decode cL_law 670 = .ok (.iload_n 3, 1) := by decide +kernel
theorem dL_law_671 : decode cL_law 671 = .ok (.iconst 3, 1) := by decide +kernel
theorem dL_law_672 : decode cL_law 672 = .ok (.iadd, 1) := by decide +kernel
theorem dL_law_673 : decode cL_law 673 = .ok (.iaload, 1) := by decide +kernel
theorem dL_law_674 : decode cL_law 674 = .ok (.invokevirtual 82, 3) := by decide +kernel
theorem dL_law_677 : decode cL_law 677 = .ok (.if_icmp .eq 344, 3) := by decide +kernel
theorem dL_law_680 : decode cL_law 680 = .ok (.iconst 0, 1) := by decide +kernel
theorem dL_law_681 : decode cL_law 681 = .ok (.ireturn, 1) := by decide +kernel
theorem dL_law_682 : decode cL_law 682 = .ok (.aload_n 1, 1) := by decide +kernel
theorem dL_law_683 : decode cL_law 683 = .ok (.aload_n 0, 1) := by decide +kernel
theorem dL_law_684 : decode cL_law 684 = .ok (.iload_n 3, 1) := by decide +kernel
theorem dL_law_685 : decode cL_law 685 = .ok (.iconst 1, 1) := by decide +kernel
theorem dL_law_686 : decode cL_law 686 = .ok (.iadd, 1) := by decide +kernel
theorem dL_law_687 : decode cL_law 687 = .ok (.iaload, 1) := by decide +kernel
theorem dL_law_688 : decode cL_law 688 = .ok (.aload_n 0, 1) := by decide +kernel
theorem dL_law_689 : decode cL_law 689 = .ok (.iload_n 3, 1) := by decide +kernel
theorem dL_law_690 : decode cL_law 690 = .ok (.iconst 2, 1) := by decide +kernel
theorem dL_law_691 : decode cL_law 691 = .ok (.iadd, 1) := by decide +kernel
theorem dL_law_692 : decode cL_law 692 = .ok (.iaload, 1) := by decide +kernel
theorem dL_law_693 : decode cL_law 693 = .ok (.invokevirtual 83, 3) := by decide +kernel
theorem dL_law_696 : decode cL_law 696 = .ok (.aload_n 2, 1) := by decide +kernel
theorem dL_law_697 : decode cL_law 697 = .ok (.aload_n 0, 1) := by decide +kernel
theorem dL_law_698 : decode cL_law 698 = .ok (.iload_n 3, 1) := by decide +kernel
theorem dL_law_699 : decode cL_law 699 = .ok (.iconst 1, 1) := by decide +kernel
theorem dL_law_700 : decode cL_law 700 = .ok (.iadd, 1) := by decide +kernel
theorem dL_law_701 : decode cL_law 701 = .ok (.iaload, 1) := by decide +kernel
theorem dL_law_702 : decode cL_law 702 = .ok (.aload_n 0, 1) := by decide +kernel
theorem dL_law_703 : decode cL_law 703 = .ok (.iload_n 3, 1) := by decide +kernel
theorem dL_law_704 : decode cL_law 704 = .ok (.iconst 2, 1) := by decide +kernel
theorem dL_law_705 : decode cL_law 705 = .ok (.iadd, 1) := by decide +kernel
theorem dL_law_706 : decode cL_law 706 = .ok (.iaload, 1) := by decide +kernel
theorem dL_law_707 : decode cL_law 707 = .ok (.invokevirtual 86, 3) := by decide +kernel
theorem dL_law_710 : decode cL_law 710 = .ok (.if_icmp .eq 311, 3) := by decide +kernel
theorem dL_law_713 : decode cL_law 713 = .ok (.iconst 0, 1) := by decide +kernel
theorem dL_law_714 : decode cL_law 714 = .ok (.ireturn, 1) := by decide +kernel
theorem dL_law_715 : decode cL_law 715 = .ok (.aload_n 1, 1) := by decide +kernel
theorem dL_law_716 : decode cL_law 716 = .ok (.invokevirtual 87, 3) := by decide +kernel
theorem dL_law_719 : decode cL_law 719 = .ok (.aload_n 2, 1) := by decide +kernel
theorem dL_law_720 : decode cL_law 720 = .ok (.invokevirtual 90, 3) := by decide +kernel
theorem dL_law_723 : decode cL_law 723 = .ok (.if_icmp .eq 298, 3) := by decide +kernel
theorem dL_law_726 : decode cL_law 726 = .ok (.iconst 0, 1) := by decide +kernel
theorem dL_law_727 : decode cL_law 727 = .ok (.ireturn, 1) := by decide +kernel
theorem dL_law_728 : decode cL_law 728 = .ok (.aload_n 1, 1) := by decide +kernel
theorem dL_law_729 : decode cL_law 729 = .ok (.aload_n 0, 1) := by decide +kernel
theorem dL_law_730 : decode cL_law 730 = .ok (.iload_n 3, 1) := by decide +kernel
theorem dL_law_731 : decode cL_law 731 = .ok (.iconst 1, 1) := by decide +kernel
theorem dL_law_732 : decode cL_law 732 = .ok (.iadd, 1) := by decide +kernel
theorem dL_law_733 : decode cL_law 733 = .ok (.iaload, 1) := by decide +kernel
theorem dL_law_734 : decode cL_law 734 = .ok (.aload_n 0, 1) := by decide +kernel
theorem dL_law_735 : decode cL_law 735 = .ok (.iload_n 3, 1) := by decide +kernel
theorem dL_law_736 : decode cL_law 736 = .ok (.iconst 2, 1) := by decide +kernel
theorem dL_law_737 : decode cL_law 737 = .ok (.iadd, 1) := by decide +kernel
theorem dL_law_738 : decode cL_law 738 = .ok (.iaload, 1) := by decide +kernel
theorem dL_law_739 : decode cL_law 739 = .ok (.aload_n 0, 1) := by decide +kernel
theorem dL_law_740 : decode cL_law 740 = .ok (.iload_n 3, 1) := by decide +kernel
theorem dL_law_741 : decode cL_law 741 = .ok (.iconst 3, 1) := by decide +kernel
theorem dL_law_742 : decode cL_law 742 = .ok (.iadd, 1) := by decide +kernel
theorem dL_law_743 : decode cL_law 743 = .ok (.iaload, 1) := by decide +kernel
theorem dL_law_744 : decode cL_law 744 = .ok (.aload_n 0, 1) := by decide +kernel
theorem dL_law_745 : decode cL_law 745 = .ok (.iload_n 3, 1) := by decide +kernel
theorem dL_law_746 : decode cL_law 746 = .ok (.iconst 4, 1) := by decide +kernel
theorem dL_law_747 : decode cL_law 747 = .ok (.iadd, 1) := by decide +kernel
theorem dL_law_748 : decode cL_law 748 = .ok (.iaload, 1) := by decide +kernel
theorem dL_law_749 : decode cL_law 749 = .ok (.invokevirtual 91, 3) := by decide +kernel
theorem dL_law_752 : decode cL_law 752 = .ok (.aload_n 2, 1) := by decide +kernel
theorem dL_law_753 : decode cL_law 753 = .ok (.aload_n 0, 1) := by decide +kernel
theorem dL_law_754 : decode cL_law 754 = .ok (.iload_n 3, 1) := by decide +kernel
theorem dL_law_755 : decode cL_law 755 = .ok (.iconst 1, 1) := by decide +kernel
theorem dL_law_756 : decode cL_law 756 = .ok (.iadd, 1) := by decide +kernel
theorem dL_law_757 : decode cL_law 757 = .ok (.iaload, 1) := by decide +kernel
theorem dL_law_758 : decode cL_law 758 = .ok (.aload_n 0, 1) := by decide +kernel
theorem dL_law_759 : decode cL_law 759 = .ok (.iload_n 3, 1) := by decide +kernel
theorem dL_law_760 : decode cL_law 760 = .ok (.iconst 2, 1) := by decide +kernel
theorem dL_law_761 : decode cL_law 761 = .ok (.iadd, 1) := by decide +kernel
theorem dL_law_762 : decode cL_law 762 = .ok (.iaload, 1) := by decide +kernel
theorem dL_law_763 : decode cL_law 763 = .ok (.aload_n 0, 1) := by decide +kernel
theorem dL_law_764 : decode cL_law 764 = .ok (.iload_n 3, 1) := by decide +kernel
theorem dL_law_765 : decode cL_law 765 = .ok (.iconst 3, 1) := by decide +kernel
theorem dL_law_766 : decode cL_law 766 = .ok (.iadd, 1) := by decide +kernel
theorem dL_law_767 : decode cL_law 767 = .ok (.iaload, 1) := by decide +kernel
theorem dL_law_768 : decode cL_law 768 = .ok (.aload_n 0, 1) := by decide +kernel
theorem dL_law_769 : decode cL_law 769 = .ok (.iload_n 3, 1) := by decide +kernel
theorem dL_law_770 : decode cL_law 770 = .ok (.iconst 4, 1) := by decide +kernel
theorem dL_law_771 : decode cL_law 771 = .ok (.iadd, 1) := by decide +kernel
theorem dL_law_772 : decode cL_law 772 = .ok (.iaload, 1) := by decide +kernel
theorem dL_law_773 : decode cL_law 773 = .ok (.invokevirtual 94, 3) := by decide +kernel
theorem dL_law_776 : decode cL_law 776 = .ok (.if_icmp .eq 245, 3) := by decide +kernel
theorem dL_law_779 : decode cL_law 779 = .ok (.iconst 0, 1) := by decide +kernel
theorem dL_law_780 : decode cL_law 780 = .ok (.ireturn, 1) := by decide +kernel
theorem dL_law_781 : decode cL_law 781 = .ok (.aload_n 1, 1) := by decide +kernel
theorem dL_law_782 : decode cL_law 782 = .ok (.aload_n 0, 1) := by decide +kernel
theorem dL_law_783 : decode cL_law 783 = .ok (.iload_n 3, 1) := by decide +kernel
theorem dL_law_784 : decode cL_law 784 = .ok (.iconst 1, 1) := by decide +kernel
theorem dL_law_785 : decode cL_law 785 = .ok (.iadd, 1) := by decide +kernel
theorem dL_law_786 : decode cL_law 786 = .ok (.iaload, 1) := by decide +kernel
theorem dL_law_787 : decode cL_law 787 = .ok (.invokevirtual 95, 3) := by decide +kernel
theorem dL_law_790 : decode cL_law 790 = .ok (.aload_n 2, 1) := by decide +kernel
theorem dL_law_791 : decode cL_law 791 = .ok (.aload_n 0, 1) := by decide +kernel
theorem dL_law_792 : decode cL_law 792 = .ok (.iload_n 3, 1) := by decide +kernel
theorem dL_law_793 : decode cL_law 793 = .ok (.iconst 1, 1) := by decide +kernel
theorem dL_law_794 : decode cL_law 794 = .ok (.iadd, 1) := by decide +kernel
theorem dL_law_795 : decode cL_law 795 = .ok (.iaload, 1) := by decide +kernel
theorem dL_law_796 : decode cL_law 796 = .ok (.invokevirtual 98, 3) := by decide +kernel
theorem dL_law_799 : decode cL_law 799 = .ok (.if_icmp .eq 222, 3) := by decide +kernel
theorem dL_law_802 : decode cL_law 802 = .ok (.iconst 0, 1) := by decide +kernel
theorem dL_law_803 : decode cL_law 803 = .ok (.ireturn, 1) := by decide +kernel
theorem dL_law_804 : decode cL_law 804 = .ok (.aload_n 1, 1) := by decide +kernel
theorem dL_law_805 : decode cL_law 805 = .ok (.invokevirtual 99, 3) := by decide +kernel
theorem dL_law_808 : decode cL_law 808 = .ok (.aload_n 2, 1) := by decide +kernel
theorem dL_law_809 : decode cL_law 809 = .ok (.invokevirtual 102, 3) := by decide +kernel
theorem dL_law_812 : decode cL_law 812 = .ok (.if_icmp .eq 209, 3) := by decide +kernel
theorem dL_law_815 : decode cL_law 815 = .ok (.iconst 0, 1) := by decide +kernel
theorem dL_law_816 : decode cL_law 816 = .ok (.ireturn, 1) := by decide +kernel
theorem dL_law_817 : decode cL_law 817 = .ok (.aload_n 1, 1) := by decide +kernel
theorem dL_law_818 : decode cL_law 818 = .ok (.invokevirtual 103, 3) := by decide +kernel
theorem dL_law_821 : decode cL_law 821 = .ok (.aload_n 2, 1) := by decide +kernel
theorem dL_law_822 : decode cL_law 822 = .ok (.invokevirtual 106, 3) := by decide +kernel
theorem dL_law_825 : decode cL_law 825 = .ok (.if_icmp .eq 196, 3) := by decide +kernel
theorem dL_law_828 : decode cL_law 828 = .ok (.iconst 0, 1) := by decide +kernel
theorem dL_law_829 : decode cL_law 829 = .ok (.ireturn, 1) := by decide +kernel
theorem dL_law_830 : decode cL_law 830 = .ok (.aload_n 1, 1) := by decide +kernel
theorem dL_law_831 : decode cL_law 831 = .ok (.aload_n 0, 1) := by decide +kernel
theorem dL_law_832 : decode cL_law 832 = .ok (.iload_n 3, 1) := by decide +kernel
theorem dL_law_833 : decode cL_law 833 = .ok (.iconst 1, 1) := by decide +kernel
theorem dL_law_834 : decode cL_law 834 = .ok (.iadd, 1) := by decide +kernel
theorem dL_law_835 : decode cL_law 835 = .ok (.iaload, 1) := by decide +kernel
theorem dL_law_836 : decode cL_law 836 = .ok (.aload_n 0, 1) := by decide +kernel
theorem dL_law_837 : decode cL_law 837 = .ok (.iload_n 3, 1) := by decide +kernel
theorem dL_law_838 : decode cL_law 838 = .ok (.iconst 2, 1) := by decide +kernel
theorem dL_law_839 : decode cL_law 839 = .ok (.iadd, 1) := by decide +kernel
theorem dL_law_840 : decode cL_law 840 = .ok (.iaload, 1) := by decide +kernel
theorem dL_law_841 : decode cL_law 841 = .ok (.aload_n 0, 1) := by decide +kernel
theorem dL_law_842 : decode cL_law 842 = .ok (.iload_n 3, 1) := by decide +kernel
theorem dL_law_843 : decode cL_law 843 = .ok (.iconst 3, 1) := by decide +kernel
theorem dL_law_844 : decode cL_law 844 = .ok (.iadd, 1) := by decide +kernel
theorem dL_law_845 : decode cL_law 845 = .ok (.iaload, 1) := by decide +kernel
theorem dL_law_846 : decode cL_law 846 = .ok (.invokevirtual 107, 3) := by decide +kernel
theorem dL_law_849 : decode cL_law 849 = .ok (.aload_n 2, 1) := by decide +kernel
theorem dL_law_850 : decode cL_law 850 = .ok (.aload_n 0, 1) := by decide +kernel
theorem dL_law_851 : decode cL_law 851 = .ok (.iload_n 3, 1) := by decide +kernel
theorem dL_law_852 : decode cL_law 852 = .ok (.iconst 1, 1) := by decide +kernel
theorem dL_law_853 : decode cL_law 853 = .ok (.iadd, 1) := by decide +kernel
theorem dL_law_854 : decode cL_law 854 = .ok (.iaload, 1) := by decide +kernel
theorem dL_law_855 : decode cL_law 855 = .ok (.aload_n 0, 1) := by decide +kernel
theorem dL_law_856 : decode cL_law 856 = .ok (.iload_n 3, 1) := by decide +kernel
theorem dL_law_857 : decode cL_law 857 = .ok (.iconst 2, 1) := by decide +kernel
theorem dL_law_858 : decode cL_law 858 = .ok (.iadd, 1) := by decide +kernel
theorem dL_law_859 : decode cL_law 859 = .ok (.iaload, 1) := by decide +kernel
theorem dL_law_860 : decode cL_law 860 = .ok (.aload_n 0, 1) := by decide +kernel
theorem dL_law_861 : decode cL_law 861 = .ok (.iload_n 3, 1) := by decide +kernel
theorem dL_law_862 : decode cL_law 862 = .ok (.iconst 3, 1) := by decide +kernel
theorem dL_law_863 : decode cL_law 863 = .ok (.iadd, 1) := by decide +kernel
theorem dL_law_864 : decode cL_law 864 = .ok (.iaload, 1) := by decide +kernel
theorem dL_law_865 : decode cL_law 865 = .ok (.invokevirtual 110, 3) := by decide +kernel
theorem dL_law_868 : decode cL_law 868 = .ok (.if_icmp .eq 153, 3) := by decide +kernel
theorem dL_law_871 : decode cL_law 871 = .ok (.iconst 0, 1) := by decide +kernel
theorem dL_law_872 : decode cL_law 872 = .ok (.ireturn, 1) := by decide +kernel
theorem dL_law_873 : decode cL_law 873 = .ok (.aload_n 1, 1) := by decide +kernel
theorem dL_law_874 : decode cL_law 874 = .ok (.aload_n 0, 1) := by decide +kernel
theorem dL_law_875 : decode cL_law 875 = .ok (.iload_n 3, 1) := by decide +kernel
theorem dL_law_876 : decode cL_law 876 = .ok (.iconst 1, 1) := by decide +kernel
theorem dL_law_877 : decode cL_law 877 = .ok (.iadd, 1) := by decide +kernel
theorem dL_law_878 : decode cL_law 878 = .ok (.iaload, 1) := by decide +kernel
theorem dL_law_879 : decode cL_law 879 = .ok (.invokevirtual 111, 3) := by decide +kernel
theorem dL_law_882 : decode cL_law 882 = .ok (.aload_n 2, 1) := by decide +kernel
theorem dL_law_883 : decode cL_law 883 = .ok (.aload_n 0, 1) := by decide +kernel
theorem dL_law_884 : decode cL_law 884 = .ok (.iload_n 3, 1) := by decide +kernel
theorem dL_law_885 : decode cL_law 885 = .ok (.iconst 1, 1) := by decide +kernel
theorem dL_law_886 : decode cL_law 886 = .ok (.iadd, 1) := by decide +kernel
theorem dL_law_887 : decode cL_law 887 = .ok (.iaload, 1) := by decide +kernel
theorem dL_law_888 : decode cL_law 888 = .ok (.invokevirtual 114, 3) := by decide +kernel
theorem dL_law_891 : decode cL_law 891 = .ok (.if_icmp .eq 130, 3) := by decide +kernel
theorem dL_law_894 : decode cL_law 894 = .ok (.iconst 0, 1) := by decide +kernel
theorem dL_law_895 : decode cL_law 895 = .ok (.ireturn, 1) := by decide +kernel
theorem dL_law_896 : decode cL_law 896 = .ok (.aload_n 1, 1) := by decide +kernel
theorem dL_law_897 : decode cL_law 897 = .ok (.aload_n 0, 1) := by decide +kernel
theorem dL_law_898 : decode cL_law 898 = .ok (.iload_n 3, 1) := by decide +kernel
theorem dL_law_899 : decode cL_law 899 = .ok (.iconst 1, 1) := by decide +kernel
theorem dL_law_900 : decode cL_law 900 = .ok (.iadd, 1) := by decide +kernel
theorem dL_law_901 : decode cL_law 901 = .ok (.iaload, 1) := by decide +kernel
theorem dL_law_902 : decode cL_law 902 = .ok (.aload_n 0, 1) := by decide +kernel
theorem dL_law_903 : decode cL_law 903 = .ok (.iload_n 3, 1) := by decide +kernel
theorem dL_law_904 : decode cL_law 904 = .ok (.iconst 2, 1) := by decide +kernel
theorem dL_law_905 : decode cL_law 905 = .ok (.iadd, 1) := by decide +kernel
theorem dL_law_906 : decode cL_law 906 = .ok (.iaload, 1) := by decide +kernel
theorem dL_law_907 : decode cL_law 907 = .ok (.invokevirtual 115, 3) := by decide +kernel
theorem dL_law_910 : decode cL_law 910 = .ok (.aload_n 2, 1) := by decide +kernel
theorem dL_law_911 : decode cL_law 911 = .ok (.aload_n 0, 1) := by decide +kernel
theorem dL_law_912 : decode cL_law 912 = .ok (.iload_n 3, 1) := by decide +kernel
theorem dL_law_913 : decode cL_law 913 = .ok (.iconst 1, 1) := by decide +kernel
theorem dL_law_914 : decode cL_law 914 = .ok (.iadd, 1) := by decide +kernel
theorem dL_law_915 : decode cL_law 915 = .ok (.iaload, 1) := by decide +kernel
theorem dL_law_916 : decode cL_law 916 = .ok (.aload_n 0, 1) := by decide +kernel
theorem dL_law_917 : decode cL_law 917 = .ok (.iload_n 3, 1) := by decide +kernel
theorem dL_law_918 : decode cL_law 918 = .ok (.iconst 2, 1) := by decide +kernel
theorem dL_law_919 : decode cL_law 919 = .ok (.iadd, 1) := by decide +kernel
theorem dL_law_920 : decode cL_law 920 = .ok (.iaload, 1) := by decide +kernel
theorem dL_law_921 : decode cL_law 921 = .ok (.invokevirtual 118, 3) := by decide +kernel
theorem dL_law_924 : decode cL_law 924 = .ok (.if_icmp .eq 97, 3) := by decide +kernel
theorem dL_law_927 : decode cL_law 927 = .ok (.iconst 0, 1) := by decide +kernel
theorem dL_law_928 : decode cL_law 928 = .ok (.ireturn, 1) := by decide +kernel
theorem dL_law_929 : decode cL_law 929 = .ok (.aload_n 1, 1) := by decide +kernel
theorem dL_law_930 : decode cL_law 930 = .ok (.aload_n 0, 1) := by decide +kernel
theorem dL_law_931 : decode cL_law 931 = .ok (.iload_n 3, 1) := by decide +kernel
theorem dL_law_932 : decode cL_law 932 = .ok (.iconst 1, 1) := by decide +kernel
theorem dL_law_933 : decode cL_law 933 = .ok (.iadd, 1) := by decide +kernel
theorem dL_law_934 : decode cL_law 934 = .ok (.iaload, 1) := by decide +kernel
theorem dL_law_935 : decode cL_law 935 = .ok (.invokevirtual 119, 3) := by decide +kernel
theorem dL_law_938 : decode cL_law 938 = .ok (.aload_n 2, 1) := by decide +kernel
theorem dL_law_939 : decode cL_law 939 = .ok (.aload_n 0, 1) := by decide +kernel
theorem dL_law_940 : decode cL_law 940 = .ok (.iload_n 3, 1) := by decide +kernel
theorem dL_law_941 : decode cL_law 941 = .ok (.iconst 1, 1) := by decide +kernel
theorem dL_law_942 : decode cL_law 942 = .ok (.iadd, 1) := by decide +kernel
theorem dL_law_943 : decode cL_law 943 = .ok (.iaload, 1) := by decide +kernel
theorem dL_law_944 : decode cL_law 944 = .ok (.invokevirtual 122, 3) := by decide +kernel
theorem dL_law_947 : decode cL_law 947 = .ok (.if_icmp .eq 74, 3) := by decide +kernel
theorem dL_law_950 : decode cL_law 950 = .ok (.iconst 0, 1) := by decide +kernel
theorem dL_law_951 : decode cL_law 951 = .ok (.ireturn, 1) := by decide +kernel
theorem dL_law_952 : decode cL_law 952 = .ok (.aload_n 1, 1) := by decide +kernel
theorem dL_law_953 : decode cL_law 953 = .ok (.aload_n 0, 1) := by decide +kernel
theorem dL_law_954 : decode cL_law 954 = .ok (.iload_n 3, 1) := by decide +kernel
theorem dL_law_955 : decode cL_law 955 = .ok (.iconst 1, 1) := by decide +kernel
theorem dL_law_956 : decode cL_law 956 = .ok (.iadd, 1) := by decide +kernel
theorem dL_law_957 : decode cL_law 957 = .ok (.iaload, 1) := by decide +kernel
theorem dL_law_958 : decode cL_law 958 = .ok (.invokevirtual 123, 3) := by decide +kernel
theorem dL_law_961 : decode cL_law 961 = .ok (.aload_n 2, 1) := by decide +kernel
theorem dL_law_962 : decode cL_law 962 = .ok (.aload_n 0, 1) := by decide +kernel
theorem dL_law_963 : decode cL_law 963 = .ok (.iload_n 3, 1) := by decide +kernel
theorem dL_law_964 : decode cL_law 964 = .ok (.iconst 1, 1) := by decide +kernel
theorem dL_law_965 : decode cL_law 965 = .ok (.iadd, 1) := by decide +kernel
theorem dL_law_966 : decode cL_law 966 = .ok (.iaload, 1) := by decide +kernel
theorem dL_law_967 : decode cL_law 967 = .ok (.invokevirtual 126, 3) := by decide +kernel
theorem dL_law_970 : decode cL_law 970 = .ok (.if_icmp .eq 51, 3) := by decide +kernel
theorem dL_law_973 : decode cL_law 973 = .ok (.iconst 0, 1) := by decide +kernel
theorem dL_law_974 : decode cL_law 974 = .ok (.ireturn, 1) := by decide +kernel
theorem dL_law_975 : decode cL_law 975 = .ok (.aload_n 1, 1) := by decide +kernel
theorem dL_law_976 : decode cL_law 976 = .ok (.aload_n 0, 1) := by decide +kernel
theorem dL_law_977 : decode cL_law 977 = .ok (.iload_n 3, 1) := by decide +kernel
theorem dL_law_978 : decode cL_law 978 = .ok (.iconst 1, 1) := by decide +kernel
theorem dL_law_979 : decode cL_law 979 = .ok (.iadd, 1) := by decide +kernel
theorem dL_law_980 : decode cL_law 980 = .ok (.iaload, 1) := by decide +kernel
theorem dL_law_981 : decode cL_law 981 = .ok (.invokevirtual 127, 3) := by decide +kernel
theorem dL_law_984 : decode cL_law 984 = .ok (.aload_n 2, 1) := by decide +kernel
theorem dL_law_985 : decode cL_law 985 = .ok (.aload_n 0, 1) := by decide +kernel
theorem dL_law_986 : decode cL_law 986 = .ok (.iload_n 3, 1) := by decide +kernel
theorem dL_law_987 : decode cL_law 987 = .ok (.iconst 1, 1) := by decide +kernel
theorem dL_law_988 : decode cL_law 988 = .ok (.iadd, 1) := by decide +kernel
theorem dL_law_989 : decode cL_law 989 = .ok (.iaload, 1) := by decide +kernel
theorem dL_law_990 : decode cL_law 990 = .ok (.invokevirtual 130, 3) := by decide +kernel
theorem dL_law_993 : decode cL_law 993 = .ok (.if_icmp .eq 28, 3) := by decide +kernel
theorem dL_law_996 : decode cL_law 996 = .ok (.iconst 0, 1) := by decide +kernel
theorem dL_law_997 : decode cL_law 997 = .ok (.ireturn, 1) := by decide +kernel
theorem dL_law_998 : decode cL_law 998 = .ok (.aload_n 1, 1) := by decide +kernel
theorem dL_law_999 : decode cL_law 999 = .ok (.aload_n 0, 1) := by decide +kernel
theorem dL_law_1000 : decode cL_law 1000 = .ok (.iload_n 3, 1) := by decide +kernel
theorem dL_law_1001 : decode cL_law 1001 = .ok (.iconst 1, 1) := by decide +kernel
theorem dL_law_1002 : decode cL_law 1002 = .ok (.iadd, 1) := by decide +kernel
theorem dL_law_1003 : decode cL_law 1003 = .ok (.iaload, 1) := by decide +kernel
theorem dL_law_1004 : decode cL_law 1004 = .ok (.invokevirtual 131, 3) := by decide +kernel
theorem dL_law_1007 : decode cL_law 1007 = .ok (.aload_n 2, 1) := by decide +kernel
theorem dL_law_1008 : decode cL_law 1008 = .ok (.aload_n 0, 1) := by decide +kernel
theorem dL_law_1009 : decode cL_law 1009 = .ok (.iload_n 3, 1) := by decide +kernel
theorem dL_law_1010 : decode cL_law 1010 = .ok (.iconst 1, 1) := by decide +kernel
theorem dL_law_1011 : decode cL_law 1011 = .ok (.iadd, 1) := by decide +kernel
theorem dL_law_1012 : decode cL_law 1012 = .ok (.iaload, 1) := by decide +kernel
theorem dL_law_1013 : decode cL_law 1013 = .ok (.invokevirtual 134, 3) := by decide +kernel
theorem dL_law_1016 : decode cL_law 1016 = .ok (.if_icmp .eq 5, 3) := by decide +kernel
theorem dL_law_1019 : decode cL_law 1019 = .ok (.iconst 0, 1) := by decide +kernel
theorem dL_law_1020 : decode cL_law 1020 = .ok (.ireturn, 1) := by decide +kernel
theorem dL_law_1021 : decode cL_law 1021 = .ok (.iinc 3 5, 3) := by decide +kernel
theorem dL_law_1024 : decode cL_law 1024 = .ok (.goto (-1006), 3) := by decide +kernel
theorem dL_law_1027 : decode cL_law 1027 = .ok (.iconst 1, 1) := by decide +kernel
theorem dL_law_1028 : decode cL_law 1028 = .ok (.ireturn, 1) := by decide +kernel
end
section
theorem dX0_init_0 : decode cX0_init 0 = .ok (.aload_n 0, 1) := by decide +kernel
theorem dX0_init_1 : decode cX0_init 1 = .ok (.invokespecial 3, 3) := by decide +kernel
theorem dX0_init_4 : decode cX0_init 4 = .ok (.aload_n 0, 1) := by decide +kernel
theorem dX0_init_5 : decode cX0_init 5 = .ok (.bipush 9, 2) := by decide +kernel
theorem dX0_init_7 : decode cX0_init 7 = .ok (.newarray .int, 2) := by decide +kernel
theorem dX0_init_9 : decode cX0_init 9 = .ok (.putfield 9, 3) := by decide +kernel
theorem dX0_init_12 : decode cX0_init 12 = .ok (.aload_n 0, 1) := by decide +kernel
theorem dX0_init_13 : decode cX0_init 13 = .ok (.bipush 9, 2) := by decide +kernel
theorem dX0_init_15 : decode cX0_init 15 = .ok (.newarray .int, 2) := by decide +kernel
theorem dX0_init_17 : decode cX0_init 17 = .ok (.putfield 15, 3) := by decide +kernel
theorem dX0_init_20 : decode cX0_init 20 = .ok (.aload_n 0, 1) := by decide +kernel
theorem dX0_init_21 : decode cX0_init 21 = .ok (.bipush 9, 2) := by decide +kernel
theorem dX0_init_23 : decode cX0_init 23 = .ok (.newarray .int, 2) := by decide +kernel
theorem dX0_init_25 : decode cX0_init 25 = .ok (.putfield 18, 3) := by decide +kernel
theorem dX0_init_28 : decode cX0_init 28 = .ok (.aload_n 0, 1) := by decide +kernel
theorem dX0_init_29 : decode cX0_init 29 = .ok (.aload_n 1, 1) := by decide +kernel
theorem dX0_init_30 : decode cX0_init 30 = .ok (.putfield 21, 3) := by decide +kernel
theorem dX0_init_33 : decode cX0_init 33 = .ok (.return_, 1) := by decide +kernel
theorem dX0_clear_0 : decode cX0_clear 0 = .ok (.aload_n 0, 1) := by decide +kernel
theorem dX0_clear_1 : decode cX0_clear 1 = .ok (.iconst 0, 1) := by decide +kernel
theorem dX0_clear_2 : decode cX0_clear 2 = .ok (.putfield 25, 3) := by decide +kernel
theorem dX0_clear_5 : decode cX0_clear 5 = .ok (.return_, 1) := by decide +kernel
theorem dX0_reduce_0 : decode cX0_reduce 0 = .ok (.iload_n 1, 1) := by decide +kernel
theorem dX0_reduce_1 : decode cX0_reduce 1 = .ok (.istore_n 2, 1) := by decide +kernel
theorem dX0_reduce_2 : decode cX0_reduce 2 = .ok (.iconst 0, 1) := by decide +kernel
theorem dX0_reduce_3 : decode cX0_reduce 3 = .ok (.istore_n 3, 1) := by decide +kernel
theorem dX0_reduce_4 : decode cX0_reduce 4 = .ok (.iload_n 3, 1) := by decide +kernel
theorem dX0_reduce_5 : decode cX0_reduce 5 = .ok (.aload_n 0, 1) := by decide +kernel
theorem dX0_reduce_6 : decode cX0_reduce 6 = .ok (.getfield 25, 3) := by decide +kernel
theorem dX0_reduce_9 : decode cX0_reduce 9 = .ok (.if_icmp .ge 38, 3) := by decide +kernel
theorem dX0_reduce_12 : decode cX0_reduce 12 = .ok (.aload_n 0, 1) := by decide +kernel
theorem dX0_reduce_13 : decode cX0_reduce 13 = .ok (.getfield 21, 3) := by decide +kernel
theorem dX0_reduce_16 : decode cX0_reduce 16 = .ok (.iload_n 2, 1) := by decide +kernel
theorem dX0_reduce_17 : decode cX0_reduce 17 = .ok (.aload_n 0, 1) := by decide +kernel
theorem dX0_reduce_18 : decode cX0_reduce 18 = .ok (.getfield 21, 3) := by decide +kernel
theorem dX0_reduce_21 : decode cX0_reduce 21 = .ok (.iload_n 2, 1) := by decide +kernel
theorem dX0_reduce_22 : decode cX0_reduce 22 = .ok (.aload_n 0, 1) := by decide +kernel
theorem dX0_reduce_23 : decode cX0_reduce 23 = .ok (.getfield 15, 3) := by decide +kernel
theorem dX0_reduce_26 : decode cX0_reduce 26 = .ok (.iload_n 3, 1) := by decide +kernel
theorem dX0_reduce_27 : decode cX0_reduce 27 = .ok (.iaload, 1) := by decide +kernel
theorem dX0_reduce_28 : decode cX0_reduce 28 = .ok (.invokevirtual 29, 3) := by decide +kernel
theorem dX0_reduce_31 : decode cX0_reduce 31 = .ok (.aload_n 0, 1) := by decide +kernel
theorem dX0_reduce_32 : decode cX0_reduce 32 = .ok (.getfield 9, 3) := by decide +kernel
theorem dX0_reduce_35 : decode cX0_reduce 35 = .ok (.iload_n 3, 1) := by decide +kernel
theorem dX0_reduce_36 : decode cX0_reduce 36 = .ok (.iaload, 1) := by decide +kernel
theorem dX0_reduce_37 : decode cX0_reduce 37 = .ok (.invokevirtual 35, 3) := by decide +kernel
theorem dX0_reduce_40 : decode cX0_reduce 40 = .ok (.istore_n 2, 1) := by decide +kernel
theorem dX0_reduce_41 : decode cX0_reduce 41 = .ok (.iinc 3 1, 3) := by decide +kernel
theorem dX0_reduce_44 : decode cX0_reduce 44 = .ok (.goto (-40), 3) := by decide +kernel
theorem dX0_reduce_47 : decode cX0_reduce 47 = .ok (.iload_n 2, 1) := by decide +kernel
theorem dX0_reduce_48 : decode cX0_reduce 48 = .ok (.ireturn, 1) := by decide +kernel
theorem dX0_blendOf_0 : decode cX0_blendOf 0 = .ok (.iload_n 1, 1) := by decide +kernel
theorem dX0_blendOf_1 : decode cX0_blendOf 1 = .ok (.istore_n 2, 1) := by decide +kernel
theorem dX0_blendOf_2 : decode cX0_blendOf 2 = .ok (.iconst 0, 1) := by decide +kernel
theorem dX0_blendOf_3 : decode cX0_blendOf 3 = .ok (.istore_n 3, 1) := by decide +kernel
theorem dX0_blendOf_4 : decode cX0_blendOf 4 = .ok (.iconst 0, 1) := by decide +kernel
theorem dX0_blendOf_5 : decode cX0_blendOf 5 = .ok (.istore 4, 2) := by decide +kernel
theorem dX0_blendOf_7 : decode cX0_blendOf 7 = .ok (.iload 4, 2) := by decide +kernel
theorem dX0_blendOf_9 : decode cX0_blendOf 9 = .ok (.aload_n 0, 1) := by decide +kernel
theorem dX0_blendOf_10 : decode cX0_blendOf 10 = .ok (.getfield 25, 3) := by decide +kernel
theorem dX0_blendOf_13 : decode cX0_blendOf 13 = .ok (.if_icmp .ge 62, 3) := by decide +kernel
theorem dX0_blendOf_16 : decode cX0_blendOf 16 = .ok (.aload_n 0, 1) := by decide +kernel
theorem dX0_blendOf_17 : decode cX0_blendOf 17 = .ok (.getfield 21, 3) := by decide +kernel
theorem dX0_blendOf_20 : decode cX0_blendOf 20 = .ok (.iload_n 2, 1) := by decide +kernel
theorem dX0_blendOf_21 : decode cX0_blendOf 21 = .ok (.aload_n 0, 1) := by decide +kernel
theorem dX0_blendOf_22 : decode cX0_blendOf 22 = .ok (.getfield 15, 3) := by decide +kernel
theorem dX0_blendOf_25 : decode cX0_blendOf 25 = .ok (.iload 4, 2) := by decide +kernel
theorem dX0_blendOf_27 : decode cX0_blendOf 27 = .ok (.iaload, 1) := by decide +kernel
theorem dX0_blendOf_28 : decode cX0_blendOf 28 = .ok (.invokevirtual 29, 3) := by decide +kernel
theorem dX0_blendOf_31 : decode cX0_blendOf 31 = .ok (.istore 5, 2) := by decide +kernel
theorem dX0_blendOf_33 : decode cX0_blendOf 33 = .ok (.aload_n 0, 1) := by decide +kernel
theorem dX0_blendOf_34 : decode cX0_blendOf 34 = .ok (.getfield 21, 3) := by decide +kernel
theorem dX0_blendOf_37 : decode cX0_blendOf 37 = .ok (.iload_n 2, 1) := by decide +kernel
theorem dX0_blendOf_38 : decode cX0_blendOf 38 = .ok (.iload 5, 2) := by decide +kernel
theorem dX0_blendOf_40 : decode cX0_blendOf 40 = .ok (.aload_n 0, 1) := by decide +kernel
theorem dX0_blendOf_41 : decode cX0_blendOf 41 = .ok (.getfield 9, 3) := by decide +kernel
theorem dX0_blendOf_44 : decode cX0_blendOf 44 = .ok (.iload 4, 2) := by decide +kernel
theorem dX0_blendOf_46 : decode cX0_blendOf 46 = .ok (.iaload, 1) := by decide +kernel
theorem dX0_blendOf_47 : decode cX0_blendOf 47 = .ok (.invokevirtual 35, 3) := by decide +kernel
theorem dX0_blendOf_50 : decode cX0_blendOf 50 = .ok (.istore_n 2, 1) := by decide +kernel
theorem dX0_blendOf_51 : decode cX0_blendOf 51 = .ok (.aload_n 0, 1) := by decide +kernel
theorem dX0_blendOf_52 : decode cX0_blendOf 52 = .ok (.getfield 21, 3) := by decide +kernel
theorem dX0_blendOf_55 : decode cX0_blendOf 55 = .ok (.iload_n 3, 1) := by decide +kernel
theorem dX0_blendOf_56 : decode cX0_blendOf 56 = .ok (.iload 5, 2) := by decide +kernel
theorem dX0_blendOf_58 : decode cX0_blendOf 58 = .ok (.aload_n 0, 1) := by decide +kernel
theorem dX0_blendOf_59 : decode cX0_blendOf 59 = .ok (.getfield 18, 3) := by decide +kernel
theorem dX0_blendOf_62 : decode cX0_blendOf 62 = .ok (.iload 4, 2) := by decide +kernel
theorem dX0_blendOf_64 : decode cX0_blendOf 64 = .ok (.iaload, 1) := by decide +kernel
theorem dX0_blendOf_65 : decode cX0_blendOf 65 = .ok (.invokevirtual 39, 3) := by decide +kernel
theorem dX0_blendOf_68 : decode cX0_blendOf 68 = .ok (.istore_n 3, 1) := by decide +kernel
theorem dX0_blendOf_69 : decode cX0_blendOf 69 = .ok (.iinc 4 1, 3) := by decide +kernel
theorem dX0_blendOf_72 : decode cX0_blendOf 72 = .ok (.goto (-65), 3) := by decide +kernel
theorem dX0_blendOf_75 : decode cX0_blendOf 75 = .ok (.iload_n 3, 1) := by decide +kernel
theorem dX0_blendOf_76 : decode cX0_blendOf 76 = .ok (.ireturn, 1) := by decide +kernel
theorem dX0_add_0 : decode cX0_add 0 = .ok (.aload_n 0, 1) := by decide +kernel
theorem dX0_add_1 : decode cX0_add 1 = .ok (.iload_n 1, 1) := by decide +kernel
theorem dX0_add_2 : decode cX0_add 2 = .ok (.invokevirtual 42, 3) := by decide +kernel
theorem dX0_add_5 : decode cX0_add 5 = .ok (.istore_n 2, 1) := by decide +kernel
theorem dX0_add_6 : decode cX0_add 6 = .ok (.iload_n 2, 1) := by decide +kernel
theorem dX0_add_7 : decode cX0_add 7 = .ok (.ifCond .eq 12, 3) := by decide +kernel
theorem dX0_add_10 : decode cX0_add 10 = .ok (.aload_n 0, 1) := by decide +kernel
theorem dX0_add_11 : decode cX0_add 11 = .ok (.getfield 25, 3) := by decide +kernel
theorem dX0_add_14 : decode cX0_add 14 = .ok (.bipush 9, 2) := by decide +kernel
theorem dX0_add_16 : decode cX0_add 16 = .ok (.if_icmp .lt 5, 3) := by decide +kernel
theorem dX0_add_19 : decode cX0_add 19 = .ok (.iconst 0, 1) := by decide +kernel
theorem dX0_add_20 : decode cX0_add 20 = .ok (.ireturn, 1) := by decide +kernel
theorem dX0_add_21 : decode cX0_add 21 = .ok (.aload_n 0, 1) := by decide +kernel
theorem dX0_add_22 : decode cX0_add 22 = .ok (.getfield 21, 3) := by decide +kernel
theorem dX0_add_25 : decode cX0_add 25 = .ok (.getfield 46, 3) := by decide +kernel
theorem dX0_add_28 : decode cX0_add 28 = .ok (.aload_n 0, 1) := by decide +kernel
theorem dX0_add_29 : decode cX0_add 29 = .ok (.getfield 21, 3) := by decide +kernel
theorem dX0_add_32 : decode cX0_add 32 = .ok (.iload_n 2, 1) := by decide +kernel
theorem dX0_add_33 : decode cX0_add 33 = .ok (.invokevirtual 49, 3) := by decide +kernel
theorem dX0_add_36 : decode cX0_add 36 = .ok (.iaload, 1) := by decide +kernel
theorem dX0_add_37 : decode cX0_add 37 = .ok (.istore_n 3, 1) := by decide +kernel
theorem dX0_add_38 : decode cX0_add 38 = .ok (.aload_n 0, 1) := by decide +kernel
theorem dX0_add_39 : decode cX0_add 39 = .ok (.getfield 21, 3) := by decide +kernel
theorem dX0_add_42 : decode cX0_add 42 = .ok (.aload_n 0, 1) := by decide +kernel
theorem dX0_add_43 : decode cX0_add 43 = .ok (.getfield 21, 3) := by decide +kernel
theorem dX0_add_46 : decode cX0_add 46 = .ok (.getfield 52, 3) := by decide +kernel
theorem dX0_add_49 : decode cX0_add 49 = .ok (.aload_n 0, 1) := by decide +kernel
theorem dX0_add_50 : decode cX0_add 50 = .ok (.getfield 25, 3) := by decide +kernel
theorem dX0_add_53 : decode cX0_add 53 = .ok (.iaload, 1) := by decide +kernel
theorem dX0_add_54 : decode cX0_add 54 = .ok (.iconst 1, 1) := by decide +kernel
theorem dX0_add_55 : decode cX0_add 55 = .ok (.aload_n 0, 1) := by decide +kernel
theorem dX0_add_56 : decode cX0_add 56 = .ok (.iload_n 1, 1) := by decide +kernel
theorem dX0_add_57 : decode cX0_add 57 = .ok (.invokevirtual 55, 3) := by decide +kernel
theorem dX0_add_60 : decode cX0_add 60 = .ok (.invokevirtual 35, 3) := by decide +kernel
theorem dX0_add_63 : decode cX0_add 63 = .ok (.istore 4, 2) := by decide +kernel
theorem dX0_add_65 : decode cX0_add 65 = .ok (.aload_n 0, 1) := by decide +kernel
theorem dX0_add_66 : decode cX0_add 66 = .ok (.getfield 9, 3) := by decide +kernel
theorem dX0_add_69 : decode cX0_add 69 = .ok (.aload_n 0, 1) := by decide +kernel
theorem dX0_add_70 : decode cX0_add 70 = .ok (.getfield 25, 3) := by decide +kernel
theorem dX0_add_73 : decode cX0_add 73 = .ok (.aload_n 0, 1) := by decide +kernel
theorem dX0_add_74 : decode cX0_add 74 = .ok (.getfield 21, 3) := by decide +kernel
theorem dX0_add_77 : decode cX0_add 77 = .ok (.iconst 0, 1) := by decide +kernel
theorem dX0_add_78 : decode cX0_add 78 = .ok (.iload_n 3, 1) := by decide +kernel
theorem dX0_add_79 : decode cX0_add 79 = .ok (.iload_n 2, 1) := by decide +kernel
theorem dX0_add_80 : decode cX0_add 80 = .ok (.invokevirtual 39, 3) := by decide +kernel
theorem dX0_add_83 : decode cX0_add 83 = .ok (.iastore, 1) := by decide +kernel
theorem dX0_add_84 : decode cX0_add 84 = .ok (.aload_n 0, 1) := by decide +kernel
theorem dX0_add_85 : decode cX0_add 85 = .ok (.getfield 15, 3) := by decide +kernel
theorem dX0_add_88 : decode cX0_add 88 = .ok (.aload_n 0, 1) := by decide +kernel
theorem dX0_add_89 : decode cX0_add 89 = .ok (.getfield 25, 3) := by decide +kernel
theorem dX0_add_92 : decode cX0_add 92 = .ok (.aload_n 0, 1) := by decide +kernel
theorem dX0_add_93 : decode cX0_add 93 = .ok (.getfield 21, 3) := by decide +kernel
theorem dX0_add_96 : decode cX0_add 96 = .ok (.iload_n 2, 1) := by decide +kernel
theorem dX0_add_97 : decode cX0_add 97 = .ok (.invokevirtual 58, 3) := by decide +kernel
theorem dX0_add_100 : decode cX0_add 100 = .ok (.iastore, 1) := by decide +kernel
theorem dX0_add_101 : decode cX0_add 101 = .ok (.aload_n 0, 1) := by decide +kernel
theorem dX0_add_102 : decode cX0_add 102 = .ok (.getfield 18, 3) := by decide +kernel
theorem dX0_add_105 : decode cX0_add 105 = .ok (.aload_n 0, 1) := by decide +kernel
theorem dX0_add_106 : decode cX0_add 106 = .ok (.getfield 25, 3) := by decide +kernel
theorem dX0_add_109 : decode cX0_add 109 = .ok (.aload_n 0, 1) := by decide +kernel
theorem dX0_add_110 : decode cX0_add 110 = .ok (.getfield 21, 3) := by decide +kernel
theorem dX0_add_113 : decode cX0_add 113 = .ok (.iconst 0, 1) := by decide +kernel
theorem dX0_add_114 : decode cX0_add 114 = .ok (.iload_n 3, 1) := by decide +kernel
theorem dX0_add_115 : decode cX0_add 115 = .ok (.iload 4, 2) := by decide +kernel
theorem dX0_add_117 : decode cX0_add 117 = .ok (.invokevirtual 39, 3) := by decide +kernel
theorem dX0_add_120 : decode cX0_add 120 = .ok (.iastore, 1) := by decide +kernel
theorem dX0_add_121 : decode cX0_add 121 = .ok (.aload_n 0, 1) := by decide +kernel
theorem dX0_add_122 : decode cX0_add 122 = .ok (.dup, 1) := by decide +kernel
theorem dX0_add_123 : decode cX0_add 123 = .ok (.getfield 25, 3) := by decide +kernel
theorem dX0_add_126 : decode cX0_add 126 = .ok (.iconst 1, 1) := by decide +kernel
theorem dX0_add_127 : decode cX0_add 127 = .ok (.iadd, 1) := by decide +kernel
theorem dX0_add_128 : decode cX0_add 128 = .ok (.putfield 25, 3) := by decide +kernel
theorem dX0_add_131 : decode cX0_add 131 = .ok (.iconst 1, 1) := by decide +kernel
theorem dX0_add_132 : decode cX0_add 132 = .ok (.ireturn, 1) := by decide +kernel
theorem dX0_removeLast_0 : decode cX0_removeLast 0 = .ok (.aload_n 0, 1) := by decide +kernel
theorem dX0_removeLast_1 : decode cX0_removeLast 1 = .ok (.getfield 25, 3) := by decide +kernel
theorem dX0_removeLast_4 : decode cX0_removeLast 4 = .ok (.ifCond .le 13, 3) := by decide +kernel
theorem dX0_removeLast_7 : decode cX0_removeLast 7 = .ok (.aload_n 0, 1) := by decide +kernel
theorem dX0_removeLast_8 : decode cX0_removeLast 8 = .ok (.dup, 1) := by decide +kernel
theorem dX0_removeLast_9 : decode cX0_removeLast 9 = .ok (.getfield 25, 3) := by decide +kernel
theorem dX0_removeLast_12 : decode cX0_removeLast 12 = .ok (.iconst 1, 1) := by decide +kernel
theorem dX0_removeLast_13 : decode cX0_removeLast 13 = .ok (.isub, 1) := by decide +kernel
theorem dX0_removeLast_14 : decode cX0_removeLast 14 = .ok (.putfield 25, 3) := by decide +kernel
theorem dX0_removeLast_17 : decode cX0_removeLast 17 = .ok (.return_, 1) := by decide +kernel
end
section
theorem dX1_init_0 : decode cX1_init 0 = .ok (.aload_n 0, 1) := by decide +kernel
theorem dX1_init_1 : decode cX1_init 1 = .ok (.invokespecial 3, 3) := by decide +kernel
theorem dX1_init_4 : decode cX1_init 4 = .ok (.aload_n 0, 1) := by decide +kernel
theorem dX1_init_5 : decode cX1_init 5 = .ok (.bipush 10, 2) := by decide +kernel
theorem dX1_init_7 : decode cX1_init 7 = .ok (.newarray .int, 2) := by decide +kernel
theorem dX1_init_9 : decode cX1_init 9 = .ok (.putfield 9, 3) := by decide +kernel
theorem dX1_init_12 : decode cX1_init 12 = .ok (.aload_n 0, 1) := by decide +kernel
theorem dX1_init_13 : decode cX1_init 13 = .ok (.bipush 7, 2) := by decide +kernel
theorem dX1_init_15 : decode cX1_init 15 = .ok (.newarray .int, 2) := by decide +kernel
theorem dX1_init_17 : decode cX1_init 17 = .ok (.putfield 15, 3) := by decide +kernel
theorem dX1_init_20 : decode cX1_init 20 = .ok (.aload_n 0, 1) := by decide +kernel
theorem dX1_init_21 : decode cX1_init 21 = .ok (.iconst 2, 1) := by decide +kernel
theorem dX1_init_22 : decode cX1_init 22 = .ok (.invokevirtual 18, 3) := by decide +kernel
theorem dX1_init_25 : decode cX1_init 25 = .ok (.return_, 1) := by decide +kernel
theorem dX1_canBe_0 : decode cX1_canBe 0 = .ok (.iload_n 0, 1) := by decide +kernel
theorem dX1_canBe_1 : decode cX1_canBe 1 = .ok (.iconst 2, 1) := by decide +kernel
theorem dX1_canBe_2 : decode cX1_canBe 2 = .ok (.if_icmp .eq 19, 3) := by decide +kernel
theorem dX1_canBe_5 : decode cX1_canBe 5 = .ok (.iload_n 0, 1) := by decide +kernel
theorem dX1_canBe_6 : decode cX1_canBe 6 = .ok (.iconst 3, 1) := by decide +kernel
theorem dX1_canBe_7 : decode cX1_canBe 7 = .ok (.if_icmp .eq 14, 3) := by decide +kernel
theorem dX1_canBe_10 : decode cX1_canBe 10 = .ok (.iload_n 0, 1) := by decide +kernel
theorem dX1_canBe_11 : decode cX1_canBe 11 = .ok (.iconst 5, 1) := by decide +kernel
theorem dX1_canBe_12 : decode cX1_canBe 12 = .ok (.if_icmp .eq 9, 3) := by decide +kernel
theorem dX1_canBe_15 : decode cX1_canBe 15 = .ok (.iload_n 0, 1) := by decide +kernel
theorem dX1_canBe_16 : decode cX1_canBe 16 = .ok (.bipush 7, 2) := by decide +kernel
theorem dX1_canBe_18 : decode cX1_canBe 18 = .ok (.if_icmp .ne 7, 3) := by decide +kernel
theorem dX1_canBe_21 : decode cX1_canBe 21 = .ok (.iconst 1, 1) := by decide +kernel
theorem dX1_canBe_22 : decode cX1_canBe 22 = .ok (.goto 4, 3) := by decide +kernel
theorem dX1_canBe_25 : decode cX1_canBe 25 = .ok (.iconst 0, 1) := by decide +kernel
theorem dX1_canBe_26 : decode cX1_canBe 26 = .ok (.ireturn, 1) := by decide +kernel
theorem dX1_become_0 : decode cX1_become 0 = .ok (.aload_n 0, 1) := by decide +kernel
theorem dX1_become_1 : decode cX1_become 1 = .ok (.iload_n 1, 1) := by decide +kernel
theorem dX1_become_2 : decode cX1_become 2 = .ok (.putfield 22, 3) := by decide +kernel
theorem dX1_become_5 : decode cX1_become 5 = .ok (.aload_n 0, 1) := by decide +kernel
theorem dX1_become_6 : decode cX1_become 6 = .ok (.getfield 9, 3) := by decide +kernel
theorem dX1_become_9 : decode cX1_become 9 = .ok (.iconst 0, 1) := by decide +kernel
theorem dX1_become_10 : decode cX1_become 10 = .ok (.iconst 1, 1) := by decide +kernel
theorem dX1_become_11 : decode cX1_become 11 = .ok (.iastore, 1) := by decide +kernel
theorem dX1_become_12 : decode cX1_become 12 = .ok (.iconst 1, 1) := by decide +kernel
theorem dX1_become_13 : decode cX1_become 13 = .ok (.istore_n 2, 1) := by decide +kernel
theorem dX1_become_14 : decode cX1_become 14 = .ok (.iload_n 2, 1) := by decide +kernel
theorem dX1_become_15 : decode cX1_become 15 = .ok (.bipush 9, 2) := by decide +kernel
theorem dX1_become_17 : decode cX1_become 17 = .ok (.if_icmp .gt 28, 3) := by decide +kernel
theorem dX1_become_20 : decode cX1_become 20 = .ok (.aload_n 0, 1) := by decide +kernel
theorem dX1_become_21 : decode cX1_become 21 = .ok (.getfield 9, 3) := by decide +kernel
theorem dX1_become_24 : decode cX1_become 24 = .ok (.iload_n 2, 1) := by decide +kernel
theorem dX1_become_25 : decode cX1_become 25 = .ok (.aload_n 0, 1) := by decide +kernel
theorem dX1_become_26 : decode cX1_become 26 = .ok (.getfield 9, 3) := by decide +kernel
theorem dX1_become_29 : decode cX1_become 29 = .ok (.iload_n 2, 1) := by decide +kernel
theorem dX1_become_30 : decode cX1_become 30 = .ok (.iconst 1, 1) := by decide +kernel
theorem dX1_become_31 : decode cX1_become 31 = .ok (.isub, 1) := by decide +kernel
theorem dX1_become_32 : decode cX1_become 32 = .ok (.iaload, 1) := by decide +kernel
theorem dX1_become_33 : decode cX1_become 33 = .ok (.aload_n 0, 1) := by decide +kernel
theorem dX1_become_34 : decode cX1_become 34 = .ok (.getfield 22, 3) := by decide +kernel
theorem dX1_become_37 : decode cX1_become 37 = .ok (.imul, 1) := by decide +kernel
theorem dX1_become_38 : decode cX1_become 38 = .ok (.iastore, 1) := by decide +kernel
theorem dX1_become_39 : decode cX1_become 39 = .ok (.iinc 2 1, 3) := by decide +kernel
theorem dX1_become_42 : decode cX1_become 42 = .ok (.goto (-28), 3) := by decide +kernel
theorem dX1_become_45 : decode cX1_become 45 = .ok (.iconst 1, 1) := by decide +kernel
theorem dX1_become_46 : decode cX1_become 46 = .ok (.istore_n 2, 1) := by decide +kernel
theorem dX1_become_47 : decode cX1_become 47 = .ok (.iload_n 2, 1) := by decide +kernel
theorem dX1_become_48 : decode cX1_become 48 = .ok (.aload_n 0, 1) := by decide +kernel
theorem dX1_become_49 : decode cX1_become 49 = .ok (.getfield 22, 3) := by decide +kernel
theorem dX1_become_52 : decode cX1_become 52 = .ok (.if_icmp .ge 44, 3) := by decide +kernel
theorem dX1_become_55 : decode cX1_become 55 = .ok (.iconst 1, 1) := by decide +kernel
theorem dX1_become_56 : decode cX1_become 56 = .ok (.istore_n 3, 1) := by decide +kernel
theorem dX1_become_57 : decode cX1_become 57 = .ok (.iload_n 3, 1) := by decide +kernel
theorem dX1_become_58 : decode cX1_become 58 = .ok (.aload_n 0, 1) := by decide +kernel
theorem dX1_become_59 : decode cX1_become 59 = .ok (.getfield 22, 3) := by decide +kernel
theorem dX1_become_62 : decode cX1_become 62 = .ok (.if_icmp .ge 28, 3) := by decide +kernel
theorem dX1_become_65 : decode cX1_become 65 = .ok (.iload_n 2, 1) := by decide +kernel
theorem dX1_become_66 : decode cX1_become 66 = .ok (.iload_n 3, 1) := by decide +kernel
theorem dX1_become_67 : decode cX1_become 67 = .ok (.imul, 1) := by decide +kernel
theorem dX1_become_68 : decode cX1_become 68 = .ok (.aload_n 0, 1) := by decide +kernel
theorem dX1_become_69 : decode cX1_become 69 = .ok (.getfield 22, 3) := by decide +kernel
theorem dX1_become_72 : decode cX1_become 72 = .ok (.irem, 1) := by decide +kernel
theorem dX1_become_73 : decode cX1_become 73 = .ok (.iconst 1, 1) := by decide +kernel
theorem dX1_become_74 : decode cX1_become 74 = .ok (.if_icmp .ne 10, 3) := by decide +kernel
theorem dX1_become_77 : decode cX1_become 77 = .ok (.aload_n 0, 1) := by decide +kernel
theorem dX1_become_78 : decode cX1_become 78 = .ok (.getfield 15, 3) := by decide +kernel
theorem dX1_become_81 : decode cX1_become 81 = .ok (.iload_n 2, 1) := by decide +kernel
theorem dX1_become_82 : decode cX1_become 82 = .ok (.iload_n 3, 1) := by decide +kernel
theorem dX1_become_83 : decode cX1_become 83 = .ok (.iastore, 1) := by decide +kernel
theorem dX1_become_84 : decode cX1_become 84 = .ok (.iinc 3 1, 3) := by decide +kernel
theorem dX1_become_87 : decode cX1_become 87 = .ok (.goto (-30), 3) := by decide +kernel
theorem dX1_become_90 : decode cX1_become 90 = .ok (.iinc 2 1, 3) := by decide +kernel
theorem dX1_become_93 : decode cX1_become 93 = .ok (.goto (-46), 3) := by decide +kernel
theorem dX1_become_96 : decode cX1_become 96 = .ok (.return_, 1) := by decide +kernel
theorem dX1_isNumber_0 : decode cX1_isNumber 0 = .ok (.iload_n 1, 1) := by decide +kernel
theorem dX1_isNumber_1 : decode cX1_isNumber 1 = .ok (.ifCond .lt 15, 3) := by decide +kernel
theorem dX1_isNumber_4 : decode cX1_isNumber 4 = .ok (.iload_n 1, 1) := by decide +kernel
theorem dX1_isNumber_5 : decode cX1_isNumber 5 = .ok (.aload_n 0, 1) := by decide +kernel
theorem dX1_isNumber_6 : decode cX1_isNumber 6 = .ok (.getfield 22, 3) := by decide +kernel
theorem dX1_isNumber_9 : decode cX1_isNumber 9 = .ok (.if_icmp .ge 7, 3) := by decide +kernel
theorem dX1_isNumber_12 : decode cX1_isNumber 12 = .ok (.iconst 1, 1) := by decide +kernel
theorem dX1_isNumber_13 : decode cX1_isNumber 13 = .ok (.goto 4, 3) := by decide +kernel
theorem dX1_isNumber_16 : decode cX1_isNumber 16 = .ok (.iconst 0, 1) := by decide +kernel
theorem dX1_isNumber_17 : decode cX1_isNumber 17 = .ok (.ireturn, 1) := by decide +kernel
theorem dX1_number_0 : decode cX1_number 0 = .ok (.iload_n 1, 1) := by decide +kernel
theorem dX1_number_1 : decode cX1_number 1 = .ok (.aload_n 0, 1) := by decide +kernel
theorem dX1_number_2 : decode cX1_number 2 = .ok (.getfield 9, 3) := by decide +kernel
theorem dX1_number_5 : decode cX1_number 5 = .ok (.iload_n 2, 1) := by decide +kernel
theorem dX1_number_6 : decode cX1_number 6 = .ok (.iaload, 1) := by decide +kernel
theorem dX1_number_7 : decode cX1_number 7 = .ok (.idiv, 1) := by decide +kernel
theorem dX1_number_8 : decode cX1_number 8 = .ok (.aload_n 0, 1) := by decide +kernel
theorem dX1_number_9 : decode cX1_number 9 = .ok (.getfield 22, 3) := by decide +kernel
theorem dX1_number_12 : decode cX1_number 12 = .ok (.irem, 1) := by decide +kernel
theorem dX1_number_13 : decode cX1_number 13 = .ok (.ireturn, 1) := by decide +kernel
theorem dX1_withNumber_0 : decode cX1_withNumber 0 = .ok (.iload_n 1, 1) := by decide +kernel
theorem dX1_withNumber_1 : decode cX1_withNumber 1 = .ok (.iload_n 3, 1) := by decide +kernel
theorem dX1_withNumber_2 : decode cX1_withNumber 2 = .ok (.aload_n 0, 1) := by decide +kernel
theorem dX1_withNumber_3 : decode cX1_withNumber 3 = .ok (.iload_n 1, 1) := by decide +kernel
theorem dX1_withNumber_4 : decode cX1_withNumber 4 = .ok (.iload_n 2, 1) := by decide +kernel
theorem dX1_withNumber_5 : decode cX1_withNumber 5 = .ok (.invokevirtual 26, 3) := by decide +kernel
theorem dX1_withNumber_8 : decode cX1_withNumber 8 = .ok (.isub, 1) := by decide +kernel
theorem dX1_withNumber_9 : decode cX1_withNumber 9 = .ok (.aload_n 0, 1) := by decide +kernel
theorem dX1_withNumber_10 : decode cX1_withNumber 10 = .ok (.getfield 9, 3) := by decide +kernel
theorem dX1_withNumber_13 : decode cX1_withNumber 13 = .ok (.iload_n 2, 1) := by decide +kernel
theorem dX1_withNumber_14 : decode cX1_withNumber 14 = .ok (.iaload, 1) := by decide +kernel
theorem dX1_withNumber_15 : decode cX1_withNumber 15 = .ok (.imul, 1) := by decide +kernel
theorem dX1_withNumber_16 : decode cX1_withNumber 16 = .ok (.iadd, 1) := by decide +kernel
theorem dX1_withNumber_17 : decode cX1_withNumber 17 = .ok (.ireturn, 1) := by decide +kernel
theorem dX1_plus_0 : decode cX1_plus 0 = .ok (.iload_n 2, 1) := by decide +kernel
theorem dX1_plus_1 : decode cX1_plus 1 = .ok (.ifCond .ne 5, 3) := by decide +kernel
theorem dX1_plus_4 : decode cX1_plus 4 = .ok (.iload_n 1, 1) := by decide +kernel
theorem dX1_plus_5 : decode cX1_plus 5 = .ok (.ireturn, 1) := by decide +kernel
theorem dX1_plus_6 : decode cX1_plus 6 = .ok (.aload_n 0, 1) := by decide +kernel
theorem dX1_plus_7 : decode cX1_plus 7 = .ok (.getfield 22, 3) := by decide +kernel
theorem dX1_plus_10 : decode cX1_plus 10 = .ok (.iconst 2, 1) := by decide +kernel
theorem dX1_plus_11 : decode cX1_plus 11 = .ok (.if_icmp .ne 7, 3) := by decide +kernel
theorem dX1_plus_14 : decode cX1_plus 14 = .ok (.iload_n 1, 1) := by decide +kernel
theorem dX1_plus_15 : decode cX1_plus 15 = .ok (.iload_n 3, 1) := by decide +kernel
theorem dX1_plus_16 : decode cX1_plus 16 = .ok (.ixor, 1) := by decide +kernel
theorem dX1_plus_17 : decode cX1_plus 17 = .ok (.ireturn, 1) := by decide +kernel
theorem dX1_plus_18 : decode cX1_plus 18 = .ok (.iconst 0, 1) := by decide +kernel
theorem dX1_plus_19 : decode cX1_plus 19 = .ok (.istore 4, 2) := by decide +kernel
theorem dX1_plus_21 : decode cX1_plus 21 = .ok (.iload_n 1, 1) := by decide +kernel
theorem dX1_plus_22 : decode cX1_plus 22 = .ok (.istore 5, 2) := by decide +kernel
theorem dX1_plus_24 : decode cX1_plus 24 = .ok (.iload_n 3, 1) := by decide +kernel
theorem dX1_plus_25 : decode cX1_plus 25 = .ok (.istore 6, 2) := by decide +kernel
theorem dX1_plus_27 : decode cX1_plus 27 = .ok (.iconst 0, 1) := by decide +kernel
theorem dX1_plus_28 : decode cX1_plus 28 = .ok (.istore 7, 2) := by decide +kernel
theorem dX1_plus_30 : decode cX1_plus 30 = .ok (.iload 7, 2) := by decide +kernel
theorem dX1_plus_32 : decode cX1_plus 32 = .ok (.bipush 9, 2) := by decide +kernel
theorem dX1_plus_34 : decode cX1_plus 34 = .ok (.if_icmp .ge 70, 3) := by decide +kernel
theorem dX1_plus_37 : decode cX1_plus 37 = .ok (.iload 5, 2) := by decide +kernel
theorem dX1_plus_39 : decode cX1_plus 39 = .ok (.iload 6, 2) := by decide +kernel
theorem dX1_plus_41 : decode cX1_plus 41 = .ok (.ior, 1) := by decide +kernel
theorem dX1_plus_42 : decode cX1_plus 42 = .ok (.ifCond .eq 62, 3) := by decide +kernel
theorem dX1_plus_45 : decode cX1_plus 45 = .ok (.iload 4, 2) := by decide +kernel
theorem dX1_plus_47 : decode cX1_plus 47 = .ok (.iload 5, 2) := by decide +kernel
theorem dX1_plus_49 : decode cX1_plus 49 = .ok (.aload_n 0, 1) := by decide +kernel
theorem dX1_plus_50 : decode cX1_plus 50 = .ok (.getfield 22, 3) := by decide +kernel
theorem dX1_plus_53 : decode cX1_plus 53 = .ok (.irem, 1) := by decide +kernel
theorem dX1_plus_54 : decode cX1_plus 54 = .ok (.iload_n 2, 1) := by decide +kernel
theorem dX1_plus_55 : decode cX1_plus 55 = .ok (.iload 6, 2) := by decide +kernel
theorem dX1_plus_57 : decode cX1_plus 57 = .ok (.aload_n 0, 1) := by decide +kernel
theorem dX1_plus_58 : decode cX1_plus 58 = .ok (.getfield 22, 3) := by decide +kernel
theorem dX1_plus_61 : decode cX1_plus 61 = .ok (.irem, 1) := by decide +kernel
theorem dX1_plus_62 : decode cX1_plus 62 = .ok (.imul, 1) := by decide +kernel
theorem dX1_plus_63 : decode cX1_plus 63 = .ok (.iadd, 1) := by decide +kernel
theorem dX1_plus_64 : decode cX1_plus 64 = .ok (.aload_n 0, 1) := by decide +kernel
theorem dX1_plus_65 : decode cX1_plus 65 = .ok (.getfield 22, 3) := by decide +kernel
theorem dX1_plus_68 : decode cX1_plus 68 = .ok (.irem, 1) := by decide +kernel
theorem dX1_plus_69 : decode cX1_plus 69 = .ok (.aload_n 0, 1) := by decide +kernel
theorem dX1_plus_70 : decode cX1_plus 70 = .ok (.getfield 9, 3) := by decide +kernel
theorem dX1_plus_73 : decode cX1_plus 73 = .ok (.iload 7, 2) := by decide +kernel
theorem dX1_plus_75 : decode cX1_plus 75 = .ok (.iaload, 1) := by decide +kernel
theorem dX1_plus_76 : decode cX1_plus 76 = .ok (.imul, 1) := by decide +kernel
theorem dX1_plus_77 : decode cX1_plus 77 = .ok (.iadd, 1) := by decide +kernel
theorem dX1_plus_78 : decode cX1_plus 78 = .ok (.istore 4, 2) := by decide +kernel
theorem dX1_plus_80 : decode cX1_plus 80 = .ok (.iload 5, 2) := by decide +kernel
theorem dX1_plus_82 : decode cX1_plus 82 = .ok (.aload_n 0, 1) := by decide +kernel
theorem dX1_plus_83 : decode cX1_plus 83 = .ok (.getfield 22, 3) := by decide +kernel
theorem dX1_plus_86 : decode cX1_plus 86 = .ok (.idiv, 1) := by decide +kernel
theorem dX1_plus_87 : decode cX1_plus 87 = .ok (.istore 5, 2) := by decide +kernel
theorem dX1_plus_89 : decode cX1_plus 89 = .ok (.iload 6, 2) := by decide +kernel
theorem dX1_plus_91 : decode cX1_plus 91 = .ok (.aload_n 0, 1) := by decide +kernel
theorem dX1_plus_92 : decode cX1_plus 92 = .ok (.getfield 22, 3) := by decide +kernel
theorem dX1_plus_95 : decode cX1_plus 95 = .ok (.idiv, 1) := by decide +kernel
theorem dX1_plus_96 : decode cX1_plus 96 = .ok (.istore 6, 2) := by decide +kernel
theorem dX1_plus_98 : decode cX1_plus 98 = .ok (.iinc 7 1, 3) := by decide +kernel
theorem dX1_plus_101 : decode cX1_plus 101 = .ok (.goto (-71), 3) := by decide +kernel
theorem dX1_plus_104 : decode cX1_plus 104 = .ok (.iload 4, 2) := by decide +kernel
theorem dX1_plus_106 : decode cX1_plus 106 = .ok (.ireturn, 1) := by decide +kernel
theorem dX1_minus_0 : decode cX1_minus 0 = .ok (.aload_n 0, 1) := by decide +kernel
theorem dX1_minus_1 : decode cX1_minus 1 = .ok (.iload_n 1, 1) := by decide +kernel
theorem dX1_minus_2 : decode cX1_minus 2 = .ok (.aload_n 0, 1) := by decide +kernel
theorem dX1_minus_3 : decode cX1_minus 3 = .ok (.getfield 22, 3) := by decide +kernel
theorem dX1_minus_6 : decode cX1_minus 6 = .ok (.iload_n 2, 1) := by decide +kernel
theorem dX1_minus_7 : decode cX1_minus 7 = .ok (.isub, 1) := by decide +kernel
theorem dX1_minus_8 : decode cX1_minus 8 = .ok (.aload_n 0, 1) := by decide +kernel
theorem dX1_minus_9 : decode cX1_minus 9 = .ok (.getfield 22, 3) := by decide +kernel
theorem dX1_minus_12 : decode cX1_minus 12 = .ok (.irem, 1) := by decide +kernel
theorem dX1_minus_13 : decode cX1_minus 13 = .ok (.iload_n 3, 1) := by decide +kernel
theorem dX1_minus_14 : decode cX1_minus 14 = .ok (.invokevirtual 30, 3) := by decide +kernel
theorem dX1_minus_17 : decode cX1_minus 17 = .ok (.ireturn, 1) := by decide +kernel
theorem dX1_firstIndex_0 : decode cX1_firstIndex 0 = .ok (.iload_n 1, 1) := by decide +kernel
theorem dX1_firstIndex_1 : decode cX1_firstIndex 1 = .ok (.istore_n 2, 1) := by decide +kernel
theorem dX1_firstIndex_2 : decode cX1_firstIndex 2 = .ok (.iconst 0, 1) := by decide +kernel
theorem dX1_firstIndex_3 : decode cX1_firstIndex 3 = .ok (.istore_n 3, 1) := by decide +kernel
theorem dX1_firstIndex_4 : decode cX1_firstIndex 4 = .ok (.iload_n 3, 1) := by decide +kernel
theorem dX1_firstIndex_5 : decode cX1_firstIndex 5 = .ok (.bipush 9, 2) := by decide +kernel
theorem dX1_firstIndex_7 : decode cX1_firstIndex 7 = .ok (.if_icmp .ge 27, 3) := by decide +kernel
theorem dX1_firstIndex_10 : decode cX1_firstIndex 10 = .ok (.iload_n 2, 1) := by decide +kernel
theorem dX1_firstIndex_11 : decode cX1_firstIndex 11 = .ok (.aload_n 0, 1) := by decide +kernel
theorem dX1_firstIndex_12 : decode cX1_firstIndex 12 = .ok (.getfield 22, 3) := by decide +kernel
theorem dX1_firstIndex_15 : decode cX1_firstIndex 15 = .ok (.irem, 1) := by decide +kernel
theorem dX1_firstIndex_16 : decode cX1_firstIndex 16 = .ok (.ifCond .eq 5, 3) := by decide +kernel
theorem dX1_firstIndex_19 : decode cX1_firstIndex 19 = .ok (.iload_n 3, 1) := by decide +kernel
theorem dX1_firstIndex_20 : decode cX1_firstIndex 20 = .ok (.ireturn, 1) := by decide +kernel
theorem dX1_firstIndex_21 : decode cX1_firstIndex 21 = .ok (.iload_n 2, 1) := by decide +kernel
theorem dX1_firstIndex_22 : decode cX1_firstIndex 22 = .ok (.aload_n 0, 1) := by decide +kernel
theorem dX1_firstIndex_23 : decode cX1_firstIndex 23 = .ok (.getfield 22, 3) := by decide +kernel
theorem dX1_firstIndex_26 : decode cX1_firstIndex 26 = .ok (.idiv, 1) := by decide +kernel
theorem dX1_firstIndex_27 : decode cX1_firstIndex 27 = .ok (.istore_n 2, 1) := by decide +kernel
theorem dX1_firstIndex_28 : decode cX1_firstIndex 28 = .ok (.iinc 3 1, 3) := by decide +kernel
theorem dX1_firstIndex_31 : decode cX1_firstIndex 31 = .ok (.goto (-27), 3) := by decide +kernel
theorem dX1_firstIndex_34 : decode cX1_firstIndex 34 = .ok (.iconst 0, 1) := by decide +kernel
theorem dX1_firstIndex_35 : decode cX1_firstIndex 35 = .ok (.ireturn, 1) := by decide +kernel
theorem dX1_first_0 : decode cX1_first 0 = .ok (.iload_n 1, 1) := by decide +kernel
theorem dX1_first_1 : decode cX1_first 1 = .ok (.ifCond .ne 7, 3) := by decide +kernel
theorem dX1_first_4 : decode cX1_first 4 = .ok (.iconst 0, 1) := by decide +kernel
theorem dX1_first_5 : decode cX1_first 5 = .ok (.goto 13, 3) := by decide +kernel
theorem dX1_first_8 : decode cX1_first 8 = .ok (.aload_n 0, 1) := by decide +kernel
theorem dX1_first_9 : decode cX1_first 9 = .ok (.iload_n 1, 1) := by decide +kernel
theorem dX1_first_10 : decode cX1_first 10 = .ok (.aload_n 0, 1) := by decide +kernel
theorem dX1_first_11 : decode cX1_first 11 = .ok (.iload_n 1, 1) := by decide +kernel
theorem dX1_first_12 : decode cX1_first 12 = .ok (.invokevirtual 34, 3) := by decide +kernel
theorem dX1_first_15 : decode cX1_first 15 = .ok (.invokevirtual 26, 3) := by decide +kernel
theorem dX1_first_18 : decode cX1_first 18 = .ok (.ireturn, 1) := by decide +kernel
theorem dX1_shape_0 : decode cX1_shape 0 = .ok (.aload_n 0, 1) := by decide +kernel
theorem dX1_shape_1 : decode cX1_shape 1 = .ok (.getfield 22, 3) := by decide +kernel
theorem dX1_shape_4 : decode cX1_shape 4 = .ok (.iconst 2, 1) := by decide +kernel
theorem dX1_shape_5 : decode cX1_shape 5 = .ok (.if_icmp .eq 7, 3) := by decide +kernel
theorem dX1_shape_8 : decode cX1_shape 8 = .ok (.iload_n 1, 1) := by decide +kernel
theorem dX1_shape_9 : decode cX1_shape 9 = .ok (.ifCond .ne 5, 3) := by decide +kernel
theorem dX1_shape_12 : decode cX1_shape 12 = .ok (.iload_n 1, 1) := by decide +kernel
theorem dX1_shape_13 : decode cX1_shape 13 = .ok (.ireturn, 1) := by decide +kernel
theorem dX1_shape_14 : decode cX1_shape 14 = .ok (.aload_n 0, 1) := by decide +kernel
theorem dX1_shape_15 : decode cX1_shape 15 = .ok (.iconst 0, 1) := by decide +kernel
theorem dX1_shape_16 : decode cX1_shape 16 = .ok (.aload_n 0, 1) := by decide +kernel
theorem dX1_shape_17 : decode cX1_shape 17 = .ok (.getfield 15, 3) := by decide +kernel
theorem dX1_shape_20 : decode cX1_shape 20 = .ok (.aload_n 0, 1) := by decide +kernel
theorem dX1_shape_21 : decode cX1_shape 21 = .ok (.iload_n 1, 1) := by decide +kernel
theorem dX1_shape_22 : decode cX1_shape 22 = .ok (.aload_n 0, 1) := by decide +kernel
theorem dX1_shape_23 : decode cX1_shape 23 = .ok (.iload_n 1, 1) := by decide +kernel
theorem dX1_shape_24 : decode cX1_shape 24 = .ok (.invokevirtual 34, 3) := by decide +kernel
theorem dX1_shape_27 : decode cX1_shape 27 = .ok (.invokevirtual 26, 3) := by decide +kernel
theorem dX1_shape_30 : decode cX1_shape 30 = .ok (.iaload, 1) := by decide +kernel
theorem dX1_shape_31 : decode cX1_shape 31 = .ok (.iload_n 1, 1) := by decide +kernel
theorem dX1_shape_32 : decode cX1_shape 32 = .ok (.invokevirtual 30, 3) := by decide +kernel
theorem dX1_shape_35 : decode cX1_shape 35 = .ok (.ireturn, 1) := by decide +kernel
theorem dX1_filled_0 : decode cX1_filled 0 = .ok (.iconst 0, 1) := by decide +kernel
theorem dX1_filled_1 : decode cX1_filled 1 = .ok (.istore_n 2, 1) := by decide +kernel
theorem dX1_filled_2 : decode cX1_filled 2 = .ok (.iload_n 1, 1) := by decide +kernel
theorem dX1_filled_3 : decode cX1_filled 3 = .ok (.istore_n 3, 1) := by decide +kernel
theorem dX1_filled_4 : decode cX1_filled 4 = .ok (.iconst 0, 1) := by decide +kernel
theorem dX1_filled_5 : decode cX1_filled 5 = .ok (.istore 4, 2) := by decide +kernel
theorem dX1_filled_7 : decode cX1_filled 7 = .ok (.iload 4, 2) := by decide +kernel
theorem dX1_filled_9 : decode cX1_filled 9 = .ok (.bipush 9, 2) := by decide +kernel
theorem dX1_filled_11 : decode cX1_filled 11 = .ok (.if_icmp .ge 32, 3) := by decide +kernel
theorem dX1_filled_14 : decode cX1_filled 14 = .ok (.iload_n 3, 1) := by decide +kernel
theorem dX1_filled_15 : decode cX1_filled 15 = .ok (.ifCond .eq 28, 3) := by decide +kernel
theorem dX1_filled_18 : decode cX1_filled 18 = .ok (.iload_n 3, 1) := by decide +kernel
theorem dX1_filled_19 : decode cX1_filled 19 = .ok (.aload_n 0, 1) := by decide +kernel
theorem dX1_filled_20 : decode cX1_filled 20 = .ok (.getfield 22, 3) := by decide +kernel
theorem dX1_filled_23 : decode cX1_filled 23 = .ok (.irem, 1) := by decide +kernel
theorem dX1_filled_24 : decode cX1_filled 24 = .ok (.ifCond .eq 6, 3) := by decide +kernel
theorem dX1_filled_27 : decode cX1_filled 27 = .ok (.iinc 2 1, 3) := by decide +kernel
theorem dX1_filled_30 : decode cX1_filled 30 = .ok (.iload_n 3, 1) := by decide +kernel
theorem dX1_filled_31 : decode cX1_filled 31 = .ok (.aload_n 0, 1) := by decide +kernel
theorem dX1_filled_32 : decode cX1_filled 32 = .ok (.getfield 22, 3) := by decide +kernel
theorem dX1_filled_35 : decode cX1_filled 35 = .ok (.idiv, 1) := by decide +kernel
theorem dX1_filled_36 : decode cX1_filled 36 = .ok (.istore_n 3, 1) := by decide +kernel
theorem dX1_filled_37 : decode cX1_filled 37 = .ok (.iinc 4 1, 3) := by decide +kernel
theorem dX1_filled_40 : decode cX1_filled 40 = .ok (.goto (-33), 3) := by decide +kernel
theorem dX1_filled_43 : decode cX1_filled 43 = .ok (.iload_n 2, 1) := by decide +kernel
theorem dX1_filled_44 : decode cX1_filled 44 = .ok (.ireturn, 1) := by decide +kernel
theorem dX1_sumOfProducts_0 : decode cX1_sumOfProducts 0 = .ok (.iconst 0, 1) := by decide +kernel
theorem dX1_sumOfProducts_1 : decode cX1_sumOfProducts 1 = .ok (.istore_n 3, 1) := by decide +kernel
theorem dX1_sumOfProducts_2 : decode cX1_sumOfProducts 2 = .ok (.iload_n 1, 1) := by decide +kernel
theorem dX1_sumOfProducts_3 : decode cX1_sumOfProducts 3 = .ok (.istore 4, 2) := by decide +kernel
theorem dX1_sumOfProducts_5 : decode cX1_sumOfProducts 5 = .ok (.iload_n 2, 1) := by decide +kernel
theorem dX1_sumOfProducts_6 : decode cX1_sumOfProducts 6 = .ok (.istore 5, 2) := by decide +kernel
theorem dX1_sumOfProducts_8 : decode cX1_sumOfProducts 8 = .ok (.iconst 0, 1) := by decide +kernel
theorem dX1_sumOfProducts_9 : decode cX1_sumOfProducts 9 = .ok (.istore 6, 2) := by decide +kernel
theorem dX1_sumOfProducts_11 : decode cX1_sumOfProducts 11 = .ok (.iload 6, 2) := by decide +kernel
theorem dX1_sumOfProducts_13 : decode cX1_sumOfProducts 13 = .ok (.bipush 9, 2) := by decide +kernel
theorem dX1_sumOfProducts_15 : decode cX1_sumOfProducts 15 = .ok (.if_icmp .ge 55, 3) := by decide +kernel
theorem dX1_sumOfProducts_18 : decode cX1_sumOfProducts 18 = .ok (.iload 4, 2) := by decide +kernel
theorem dX1_sumOfProducts_20 : decode cX1_sumOfProducts 20 = .ok (.ifCond .eq 50, 3) := by decide +kernel
theorem dX1_sumOfProducts_23 : decode cX1_sumOfProducts 23 = .ok (.iload 5, 2) := by decide +kernel
theorem dX1_sumOfProducts_25 : decode cX1_sumOfProducts 25 = .ok (.ifCond .eq 45, 3) := by decide +kernel
theorem dX1_sumOfProducts_28 : decode cX1_sumOfProducts 28 = .ok (.iload_n 3, 1) := by decide +kernel
theorem dX1_sumOfProducts_29 : decode cX1_sumOfProducts 29 = .ok (.iload 4, 2) := by decide +kernel
theorem dX1_sumOfProducts_31 : decode cX1_sumOfProducts 31 = .ok (.aload_n 0, 1) := by decide +kernel
theorem dX1_sumOfProducts_32 : decode cX1_sumOfProducts 32 = .ok (.getfield 22, 3) := by decide +kernel
theorem dX1_sumOfProducts_35 : decode cX1_sumOfProducts 35 = .ok (.irem, 1) := by decide +kernel
theorem dX1_sumOfProducts_36 : decode cX1_sumOfProducts 36 = .ok (.iload 5, 2) := by decide +kernel
theorem dX1_sumOfProducts_38 : decode cX1_sumOfProducts 38 = .ok (.aload_n 0, 1) := by decide +kernel
theorem dX1_sumOfProducts_39 : decode cX1_sumOfProducts 39 = .ok (.getfield 22, 3) := by decide +kernel
theorem dX1_sumOfProducts_42 : decode cX1_sumOfProducts 42 = .ok (.irem, 1) := by decide +kernel
theorem dX1_sumOfProducts_43 : decode cX1_sumOfProducts 43 = .ok (.imul, 1) := by decide +kernel
theorem dX1_sumOfProducts_44 : decode cX1_sumOfProducts 44 = .ok (.iadd, 1) := by decide +kernel
theorem dX1_sumOfProducts_45 : decode cX1_sumOfProducts 45 = .ok (.istore_n 3, 1) := by decide +kernel
theorem dX1_sumOfProducts_46 : decode cX1_sumOfProducts 46 = .ok (.iload 4, 2) := by decide +kernel
theorem dX1_sumOfProducts_48 : decode cX1_sumOfProducts 48 = .ok (.aload_n 0, 1) := by decide +kernel
theorem dX1_sumOfProducts_49 : decode cX1_sumOfProducts 49 = .ok (.getfield 22, 3) := by decide +kernel
theorem dX1_sumOfProducts_52 : decode cX1_sumOfProducts 52 = .ok (.idiv, 1) := by decide +kernel
theorem dX1_sumOfProducts_53 : decode cX1_sumOfProducts 53 = .ok (.istore 4, 2) := by decide +kernel
theorem dX1_sumOfProducts_55 : decode cX1_sumOfProducts 55 = .ok (.iload 5, 2) := by decide +kernel
theorem dX1_sumOfProducts_57 : decode cX1_sumOfProducts 57 = .ok (.aload_n 0, 1) := by decide +kernel
theorem dX1_sumOfProducts_58 : decode cX1_sumOfProducts 58 = .ok (.getfield 22, 3) := by decide +kernel
theorem dX1_sumOfProducts_61 : decode cX1_sumOfProducts 61 = .ok (.idiv, 1) := by decide +kernel
theorem dX1_sumOfProducts_62 : decode cX1_sumOfProducts 62 = .ok (.istore 5, 2) := by decide +kernel
theorem dX1_sumOfProducts_64 : decode cX1_sumOfProducts 64 = .ok (.iinc 6 1, 3) := by decide +kernel
theorem dX1_sumOfProducts_67 : decode cX1_sumOfProducts 67 = .ok (.goto (-56), 3) := by decide +kernel
theorem dX1_sumOfProducts_70 : decode cX1_sumOfProducts 70 = .ok (.iload_n 3, 1) := by decide +kernel
theorem dX1_sumOfProducts_71 : decode cX1_sumOfProducts 71 = .ok (.aload_n 0, 1) := by decide +kernel
theorem dX1_sumOfProducts_72 : decode cX1_sumOfProducts 72 = .ok (.getfield 22, 3) := by decide +kernel
theorem dX1_sumOfProducts_75 : decode cX1_sumOfProducts 75 = .ok (.irem, 1) := by decide +kernel
theorem dX1_sumOfProducts_76 : decode cX1_sumOfProducts 76 = .ok (.ireturn, 1) := by decide +kernel
theorem dX1_product_0 : decode cX1_product 0 = .ok (.iconst 0, 1) := by decide +kernel
theorem dX1_product_1 : decode cX1_product 1 = .ok (.istore 4, 2) := by decide +kernel
theorem dX1_product_3 : decode cX1_product 3 = .ok (.iload_n 1, 1) := by decide +kernel
theorem dX1_product_4 : decode cX1_product 4 = .ok (.istore 5, 2) := by decide +kernel
theorem dX1_product_6 : decode cX1_product 6 = .ok (.iconst 0, 1) := by decide +kernel
theorem dX1_product_7 : decode cX1_product 7 = .ok (.istore 6, 2) := by decide +kernel
theorem dX1_product_9 : decode cX1_product 9 = .ok (.iload 6, 2) := by decide +kernel
theorem dX1_product_11 : decode cX1_product 11 = .ok (.bipush 9, 2) := by decide +kernel
theorem dX1_product_13 : decode cX1_product 13 = .ok (.if_icmp .ge 55, 3) := by decide +kernel
theorem dX1_product_16 : decode cX1_product 16 = .ok (.iload 6, 2) := by decide +kernel
theorem dX1_product_18 : decode cX1_product 18 = .ok (.iload_n 3, 1) := by decide +kernel
theorem dX1_product_19 : decode cX1_product 19 = .ok (.imul, 1) := by decide +kernel
theorem dX1_product_20 : decode cX1_product 20 = .ok (.bipush 9, 2) := by decide +kernel
theorem dX1_product_22 : decode cX1_product 22 = .ok (.if_icmp .ge 46, 3) := by decide +kernel
theorem dX1_product_25 : decode cX1_product 25 = .ok (.iload 4, 2) := by decide +kernel
theorem dX1_product_27 : decode cX1_product 27 = .ok (.aload_n 0, 1) := by decide +kernel
theorem dX1_product_28 : decode cX1_product 28 = .ok (.iconst 0, 1) := by decide +kernel
theorem dX1_product_29 : decode cX1_product 29 = .ok (.iload 5, 2) := by decide +kernel
theorem dX1_product_31 : decode cX1_product 31 = .ok (.aload_n 0, 1) := by decide +kernel
theorem dX1_product_32 : decode cX1_product 32 = .ok (.getfield 22, 3) := by decide +kernel
theorem dX1_product_35 : decode cX1_product 35 = .ok (.irem, 1) := by decide +kernel
theorem dX1_product_36 : decode cX1_product 36 = .ok (.iload_n 2, 1) := by decide +kernel
theorem dX1_product_37 : decode cX1_product 37 = .ok (.invokevirtual 30, 3) := by decide +kernel
theorem dX1_product_40 : decode cX1_product 40 = .ok (.aload_n 0, 1) := by decide +kernel
theorem dX1_product_41 : decode cX1_product 41 = .ok (.getfield 9, 3) := by decide +kernel
theorem dX1_product_44 : decode cX1_product 44 = .ok (.iload 6, 2) := by decide +kernel
theorem dX1_product_46 : decode cX1_product 46 = .ok (.iload_n 3, 1) := by decide +kernel
theorem dX1_product_47 : decode cX1_product 47 = .ok (.imul, 1) := by decide +kernel
theorem dX1_product_48 : decode cX1_product 48 = .ok (.iaload, 1) := by decide +kernel
theorem dX1_product_49 : decode cX1_product 49 = .ok (.imul, 1) := by decide +kernel
theorem dX1_product_50 : decode cX1_product 50 = .ok (.iadd, 1) := by decide +kernel
theorem dX1_product_51 : decode cX1_product 51 = .ok (.istore 4, 2) := by decide +kernel
theorem dX1_product_53 : decode cX1_product 53 = .ok (.iload 5, 2) := by decide +kernel
theorem dX1_product_55 : decode cX1_product 55 = .ok (.aload_n 0, 1) := by decide +kernel
theorem dX1_product_56 : decode cX1_product 56 = .ok (.getfield 22, 3) := by decide +kernel
theorem dX1_product_59 : decode cX1_product 59 = .ok (.idiv, 1) := by decide +kernel
theorem dX1_product_60 : decode cX1_product 60 = .ok (.istore 5, 2) := by decide +kernel
theorem dX1_product_62 : decode cX1_product 62 = .ok (.iinc 6 1, 3) := by decide +kernel
theorem dX1_product_65 : decode cX1_product 65 = .ok (.goto (-56), 3) := by decide +kernel
theorem dX1_product_68 : decode cX1_product 68 = .ok (.iload 4, 2) := by decide +kernel
theorem dX1_product_70 : decode cX1_product 70 = .ok (.ireturn, 1) := by decide +kernel
theorem dX1_shapes_0 : decode cX1_shapes 0 = .ok (.aload_n 0, 1) := by decide +kernel
theorem dX1_shapes_1 : decode cX1_shapes 1 = .ok (.getfield 9, 3) := by decide +kernel
theorem dX1_shapes_4 : decode cX1_shapes 4 = .ok (.iload_n 1, 1) := by decide +kernel
theorem dX1_shapes_5 : decode cX1_shapes 5 = .ok (.iaload, 1) := by decide +kernel
theorem dX1_shapes_6 : decode cX1_shapes 6 = .ok (.iconst 1, 1) := by decide +kernel
theorem dX1_shapes_7 : decode cX1_shapes 7 = .ok (.isub, 1) := by decide +kernel
theorem dX1_shapes_8 : decode cX1_shapes 8 = .ok (.aload_n 0, 1) := by decide +kernel
theorem dX1_shapes_9 : decode cX1_shapes 9 = .ok (.getfield 22, 3) := by decide +kernel
theorem dX1_shapes_12 : decode cX1_shapes 12 = .ok (.iconst 1, 1) := by decide +kernel
theorem dX1_shapes_13 : decode cX1_shapes 13 = .ok (.isub, 1) := by decide +kernel
theorem dX1_shapes_14 : decode cX1_shapes 14 = .ok (.idiv, 1) := by decide +kernel
theorem dX1_shapes_15 : decode cX1_shapes 15 = .ok (.ireturn, 1) := by decide +kernel
end
section
theorem dX2_init_0 : decode cX2_init 0 = .ok (.aload_n 0, 1) := by decide +kernel
theorem dX2_init_1 : decode cX2_init 1 = .ok (.invokespecial 3, 3) := by decide +kernel
theorem dX2_init_4 : decode cX2_init 4 = .ok (.aload_n 0, 1) := by decide +kernel
theorem dX2_init_5 : decode cX2_init 5 = .ok (.aload_n 1, 1) := by decide +kernel
theorem dX2_init_6 : decode cX2_init 6 = .ok (.putfield 9, 3) := by decide +kernel
theorem dX2_init_9 : decode cX2_init 9 = .ok (.return_, 1) := by decide +kernel
theorem dX2_turnRound_0 : decode cX2_turnRound 0 = .ok (.aload_n 2, 1) := by decide +kernel
theorem dX2_turnRound_1 : decode cX2_turnRound 1 = .ok (.aload_n 1, 1) := by decide +kernel
theorem dX2_turnRound_2 : decode cX2_turnRound 2 = .ok (.getfield 15, 3) := by decide +kernel
theorem dX2_turnRound_5 : decode cX2_turnRound 5 = .ok (.iconst 1, 1) := by decide +kernel
theorem dX2_turnRound_6 : decode cX2_turnRound 6 = .ok (.iaload, 1) := by decide +kernel
theorem dX2_turnRound_7 : decode cX2_turnRound 7 = .ok (.aload_n 1, 1) := by decide +kernel
theorem dX2_turnRound_8 : decode cX2_turnRound 8 = .ok (.getfield 15, 3) := by decide +kernel
theorem dX2_turnRound_11 : decode cX2_turnRound 11 = .ok (.iconst 2, 1) := by decide +kernel
theorem dX2_turnRound_12 : decode cX2_turnRound 12 = .ok (.iaload, 1) := by decide +kernel
theorem dX2_turnRound_13 : decode cX2_turnRound 13 = .ok (.aload_n 1, 1) := by decide +kernel
theorem dX2_turnRound_14 : decode cX2_turnRound 14 = .ok (.getfield 15, 3) := by decide +kernel
theorem dX2_turnRound_17 : decode cX2_turnRound 17 = .ok (.iconst 0, 1) := by decide +kernel
theorem dX2_turnRound_18 : decode cX2_turnRound 18 = .ok (.iaload, 1) := by decide +kernel
theorem dX2_turnRound_19 : decode cX2_turnRound 19 = .ok (.invokevirtual 21, 3) := by decide +kernel
theorem dX2_turnRound_22 : decode cX2_turnRound 22 = .ok (.iconst 0, 1) := by decide +kernel
theorem dX2_turnRound_23 : decode cX2_turnRound 23 = .ok (.istore_n 3, 1) := by decide +kernel
theorem dX2_turnRound_24 : decode cX2_turnRound 24 = .ok (.iload_n 3, 1) := by decide +kernel
theorem dX2_turnRound_25 : decode cX2_turnRound 25 = .ok (.aload_n 1, 1) := by decide +kernel
theorem dX2_turnRound_26 : decode cX2_turnRound 26 = .ok (.getfield 15, 3) := by decide +kernel
theorem dX2_turnRound_29 : decode cX2_turnRound 29 = .ok (.iconst 1, 1) := by decide +kernel
theorem dX2_turnRound_30 : decode cX2_turnRound 30 = .ok (.iaload, 1) := by decide +kernel
theorem dX2_turnRound_31 : decode cX2_turnRound 31 = .ok (.if_icmp .ge 44, 3) := by decide +kernel
theorem dX2_turnRound_34 : decode cX2_turnRound 34 = .ok (.iconst 0, 1) := by decide +kernel
theorem dX2_turnRound_35 : decode cX2_turnRound 35 = .ok (.istore 4, 2) := by decide +kernel
theorem dX2_turnRound_37 : decode cX2_turnRound 37 = .ok (.iload 4, 2) := by decide +kernel
theorem dX2_turnRound_39 : decode cX2_turnRound 39 = .ok (.aload_n 1, 1) := by decide +kernel
theorem dX2_turnRound_40 : decode cX2_turnRound 40 = .ok (.getfield 15, 3) := by decide +kernel
theorem dX2_turnRound_43 : decode cX2_turnRound 43 = .ok (.iconst 2, 1) := by decide +kernel
theorem dX2_turnRound_44 : decode cX2_turnRound 44 = .ok (.iaload, 1) := by decide +kernel
theorem dX2_turnRound_45 : decode cX2_turnRound 45 = .ok (.if_icmp .ge 24, 3) := by decide +kernel
theorem dX2_turnRound_48 : decode cX2_turnRound 48 = .ok (.aload_n 2, 1) := by decide +kernel
theorem dX2_turnRound_49 : decode cX2_turnRound 49 = .ok (.iload_n 3, 1) := by decide +kernel
theorem dX2_turnRound_50 : decode cX2_turnRound 50 = .ok (.iload 4, 2) := by decide +kernel
theorem dX2_turnRound_52 : decode cX2_turnRound 52 = .ok (.aload_n 1, 1) := by decide +kernel
theorem dX2_turnRound_53 : decode cX2_turnRound 53 = .ok (.iconst 0, 1) := by decide +kernel
theorem dX2_turnRound_54 : decode cX2_turnRound 54 = .ok (.iload_n 3, 1) := by decide +kernel
theorem dX2_turnRound_55 : decode cX2_turnRound 55 = .ok (.iload 4, 2) := by decide +kernel
theorem dX2_turnRound_57 : decode cX2_turnRound 57 = .ok (.invokevirtual 25, 3) := by decide +kernel
theorem dX2_turnRound_60 : decode cX2_turnRound 60 = .ok (.invokevirtual 29, 3) := by decide +kernel
theorem dX2_turnRound_63 : decode cX2_turnRound 63 = .ok (.iinc 4 1, 3) := by decide +kernel
theorem dX2_turnRound_66 : decode cX2_turnRound 66 = .ok (.goto (-29), 3) := by decide +kernel
theorem dX2_turnRound_69 : decode cX2_turnRound 69 = .ok (.iinc 3 1, 3) := by decide +kernel
theorem dX2_turnRound_72 : decode cX2_turnRound 72 = .ok (.goto (-48), 3) := by decide +kernel
theorem dX2_turnRound_75 : decode cX2_turnRound 75 = .ok (.iconst 0, 1) := by decide +kernel
theorem dX2_turnRound_76 : decode cX2_turnRound 76 = .ok (.istore_n 3, 1) := by decide +kernel
theorem dX2_turnRound_77 : decode cX2_turnRound 77 = .ok (.iload_n 3, 1) := by decide +kernel
theorem dX2_turnRound_78 : decode cX2_turnRound 78 = .ok (.aload_n 1, 1) := by decide +kernel
theorem dX2_turnRound_79 : decode cX2_turnRound 79 = .ok (.getfield 32, 3) := by decide +kernel
theorem dX2_turnRound_82 : decode cX2_turnRound 82 = .ok (.if_icmp .ge 31, 3) := by decide +kernel
theorem dX2_turnRound_85 : decode cX2_turnRound 85 = .ok (.aload_n 2, 1) := by decide +kernel
theorem dX2_turnRound_86 : decode cX2_turnRound 86 = .ok (.aload_n 1, 1) := by decide +kernel
theorem dX2_turnRound_87 : decode cX2_turnRound 87 = .ok (.iconst 1, 1) := by decide +kernel
theorem dX2_turnRound_88 : decode cX2_turnRound 88 = .ok (.iload_n 3, 1) := by decide +kernel
theorem dX2_turnRound_89 : decode cX2_turnRound 89 = .ok (.invokevirtual 36, 3) := by decide +kernel
theorem dX2_turnRound_92 : decode cX2_turnRound 92 = .ok (.aload_n 1, 1) := by decide +kernel
theorem dX2_turnRound_93 : decode cX2_turnRound 93 = .ok (.iconst 2, 1) := by decide +kernel
theorem dX2_turnRound_94 : decode cX2_turnRound 94 = .ok (.iload_n 3, 1) := by decide +kernel
theorem dX2_turnRound_95 : decode cX2_turnRound 95 = .ok (.invokevirtual 36, 3) := by decide +kernel
theorem dX2_turnRound_98 : decode cX2_turnRound 98 = .ok (.aload_n 1, 1) := by decide +kernel
theorem dX2_turnRound_99 : decode cX2_turnRound 99 = .ok (.iconst 0, 1) := by decide +kernel
theorem dX2_turnRound_100 : decode cX2_turnRound 100 = .ok (.iload_n 3, 1) := by decide +kernel
theorem dX2_turnRound_101 : decode cX2_turnRound 101 = .ok (.invokevirtual 36, 3) := by decide +kernel
theorem dX2_turnRound_104 : decode cX2_turnRound 104 = .ok (.invokevirtual 40, 3) := by decide +kernel
theorem dX2_turnRound_107 : decode cX2_turnRound 107 = .ok (.iinc 3 1, 3) := by decide +kernel
theorem dX2_turnRound_110 : decode cX2_turnRound 110 = .ok (.goto (-33), 3) := by decide +kernel
theorem dX2_turnRound_113 : decode cX2_turnRound 113 = .ok (.return_, 1) := by decide +kernel
theorem dX2_putBeside_0 : decode cX2_putBeside 0 = .ok (.aload_n 1, 1) := by decide +kernel
theorem dX2_putBeside_1 : decode cX2_putBeside 1 = .ok (.getfield 15, 3) := by decide +kernel
theorem dX2_putBeside_4 : decode cX2_putBeside 4 = .ok (.iconst 0, 1) := by decide +kernel
theorem dX2_putBeside_5 : decode cX2_putBeside 5 = .ok (.iaload, 1) := by decide +kernel
theorem dX2_putBeside_6 : decode cX2_putBeside 6 = .ok (.istore 4, 2) := by decide +kernel
theorem dX2_putBeside_8 : decode cX2_putBeside 8 = .ok (.aload_n 1, 1) := by decide +kernel
theorem dX2_putBeside_9 : decode cX2_putBeside 9 = .ok (.getfield 15, 3) := by decide +kernel
theorem dX2_putBeside_12 : decode cX2_putBeside 12 = .ok (.iconst 1, 1) := by decide +kernel
theorem dX2_putBeside_13 : decode cX2_putBeside 13 = .ok (.iaload, 1) := by decide +kernel
theorem dX2_putBeside_14 : decode cX2_putBeside 14 = .ok (.istore 5, 2) := by decide +kernel
theorem dX2_putBeside_16 : decode cX2_putBeside 16 = .ok (.aload_n 1, 1) := by decide +kernel
theorem dX2_putBeside_17 : decode cX2_putBeside 17 = .ok (.getfield 15, 3) := by decide +kernel
theorem dX2_putBeside_20 : decode cX2_putBeside 20 = .ok (.iconst 2, 1) := by decide +kernel
theorem dX2_putBeside_21 : decode cX2_putBeside 21 = .ok (.iaload, 1) := by decide +kernel
theorem dX2_putBeside_22 : decode cX2_putBeside 22 = .ok (.istore 6, 2) := by decide +kernel
theorem dX2_putBeside_24 : decode cX2_putBeside 24 = .ok (.aload_n 3, 1) := by decide +kernel
theorem dX2_putBeside_25 : decode cX2_putBeside 25 = .ok (.iload 4, 2) := by decide +kernel
theorem dX2_putBeside_27 : decode cX2_putBeside 27 = .ok (.aload_n 2, 1) := by decide +kernel
theorem dX2_putBeside_28 : decode cX2_putBeside 28 = .ok (.getfield 15, 3) := by decide +kernel
theorem dX2_putBeside_31 : decode cX2_putBeside 31 = .ok (.iconst 0, 1) := by decide +kernel
theorem dX2_putBeside_32 : decode cX2_putBeside 32 = .ok (.iaload, 1) := by decide +kernel
theorem dX2_putBeside_33 : decode cX2_putBeside 33 = .ok (.iadd, 1) := by decide +kernel
theorem dX2_putBeside_34 : decode cX2_putBeside 34 = .ok (.iload 5, 2) := by decide +kernel
theorem dX2_putBeside_36 : decode cX2_putBeside 36 = .ok (.aload_n 2, 1) := by decide +kernel
theorem dX2_putBeside_37 : decode cX2_putBeside 37 = .ok (.getfield 15, 3) := by decide +kernel
theorem dX2_putBeside_40 : decode cX2_putBeside 40 = .ok (.iconst 1, 1) := by decide +kernel
theorem dX2_putBeside_41 : decode cX2_putBeside 41 = .ok (.iaload, 1) := by decide +kernel
theorem dX2_putBeside_42 : decode cX2_putBeside 42 = .ok (.iadd, 1) := by decide +kernel
theorem dX2_putBeside_43 : decode cX2_putBeside 43 = .ok (.iload 6, 2) := by decide +kernel
theorem dX2_putBeside_45 : decode cX2_putBeside 45 = .ok (.aload_n 2, 1) := by decide +kernel
theorem dX2_putBeside_46 : decode cX2_putBeside 46 = .ok (.getfield 15, 3) := by decide +kernel
theorem dX2_putBeside_49 : decode cX2_putBeside 49 = .ok (.iconst 2, 1) := by decide +kernel
theorem dX2_putBeside_50 : decode cX2_putBeside 50 = .ok (.iaload, 1) := by decide +kernel
theorem dX2_putBeside_51 : decode cX2_putBeside 51 = .ok (.iadd, 1) := by decide +kernel
theorem dX2_putBeside_52 : decode cX2_putBeside 52 = .ok (.invokevirtual 21, 3) := by decide +kernel
theorem dX2_putBeside_55 : decode cX2_putBeside 55 = .ok (.iconst 0, 1) := by decide +kernel
theorem dX2_putBeside_56 : decode cX2_putBeside 56 = .ok (.istore 7, 2) := by decide +kernel
theorem dX2_putBeside_58 : decode cX2_putBeside 58 = .ok (.iload 7, 2) := by decide +kernel
theorem dX2_putBeside_60 : decode cX2_putBeside 60 = .ok (.iload 4, 2) := by decide +kernel
theorem dX2_putBeside_62 : decode cX2_putBeside 62 = .ok (.if_icmp .ge 41, 3) := by decide +kernel
theorem dX2_putBeside_65 : decode cX2_putBeside 65 = .ok (.iconst 0, 1) := by decide +kernel
theorem dX2_putBeside_66 : decode cX2_putBeside 66 = .ok (.istore 8, 2) := by decide +kernel
theorem dX2_putBeside_68 : decode cX2_putBeside 68 = .ok (.iload 8, 2) := by decide +kernel
theorem dX2_putBeside_70 : decode cX2_putBeside 70 = .ok (.iload 5, 2) := by decide +kernel
theorem dX2_putBeside_72 : decode cX2_putBeside 72 = .ok (.if_icmp .ge 25, 3) := by decide +kernel
theorem dX2_putBeside_75 : decode cX2_putBeside 75 = .ok (.aload_n 3, 1) := by decide +kernel
theorem dX2_putBeside_76 : decode cX2_putBeside 76 = .ok (.iload 7, 2) := by decide +kernel
theorem dX2_putBeside_78 : decode cX2_putBeside 78 = .ok (.iload 8, 2) := by decide +kernel
theorem dX2_putBeside_80 : decode cX2_putBeside 80 = .ok (.aload_n 1, 1) := by decide +kernel
theorem dX2_putBeside_81 : decode cX2_putBeside 81 = .ok (.iload 7, 2) := by decide +kernel
theorem dX2_putBeside_83 : decode cX2_putBeside 83 = .ok (.iload 8, 2) := by decide +kernel
theorem dX2_putBeside_85 : decode cX2_putBeside 85 = .ok (.invokevirtual 43, 3) := by decide +kernel
theorem dX2_putBeside_88 : decode cX2_putBeside 88 = .ok (.invokevirtual 29, 3) := by decide +kernel
theorem dX2_putBeside_91 : decode cX2_putBeside 91 = .ok (.iinc 8 1, 3) := by decide +kernel
theorem dX2_putBeside_94 : decode cX2_putBeside 94 = .ok (.goto (-26), 3) := by decide +kernel
theorem dX2_putBeside_97 : decode cX2_putBeside 97 = .ok (.iinc 7 1, 3) := by decide +kernel
theorem dX2_putBeside_100 : decode cX2_putBeside 100 = .ok (.goto (-42), 3) := by decide +kernel
theorem dX2_putBeside_103 : decode cX2_putBeside 103 = .ok (.iconst 0, 1) := by decide +kernel
theorem dX2_putBeside_104 : decode cX2_putBeside 104 = .ok (.istore 7, 2) := by decide +kernel
theorem dX2_putBeside_106 : decode cX2_putBeside 106 = .ok (.iload 7, 2) := by decide +kernel
theorem dX2_putBeside_108 : decode cX2_putBeside 108 = .ok (.aload_n 2, 1) := by decide +kernel
theorem dX2_putBeside_109 : decode cX2_putBeside 109 = .ok (.getfield 15, 3) := by decide +kernel
theorem dX2_putBeside_112 : decode cX2_putBeside 112 = .ok (.iconst 0, 1) := by decide +kernel
theorem dX2_putBeside_113 : decode cX2_putBeside 113 = .ok (.iaload, 1) := by decide +kernel
theorem dX2_putBeside_114 : decode cX2_putBeside 114 = .ok (.if_icmp .ge 62, 3) := by decide +kernel
theorem dX2_putBeside_117 : decode cX2_putBeside 117 = .ok (.iconst 0, 1) := by decide +kernel
theorem dX2_putBeside_118 : decode cX2_putBeside 118 = .ok (.istore 8, 2) := by decide +kernel
theorem dX2_putBeside_120 : decode cX2_putBeside 120 = .ok (.iload 8, 2) := by decide +kernel
theorem dX2_putBeside_122 : decode cX2_putBeside 122 = .ok (.aload_n 2, 1) := by decide +kernel
theorem dX2_putBeside_123 : decode cX2_putBeside 123 = .ok (.getfield 15, 3) := by decide +kernel
theorem dX2_putBeside_126 : decode cX2_putBeside 126 = .ok (.iconst 1, 1) := by decide +kernel
theorem dX2_putBeside_127 : decode cX2_putBeside 127 = .ok (.iaload, 1) := by decide +kernel
theorem dX2_putBeside_128 : decode cX2_putBeside 128 = .ok (.if_icmp .ge 42, 3) := by decide +kernel
theorem dX2_putBeside_131 : decode cX2_putBeside 131 = .ok (.aload_n 3, 1) := by decide +kernel
theorem dX2_putBeside_132 : decode cX2_putBeside 132 = .ok (.iload 4, 2) := by decide +kernel
theorem dX2_putBeside_134 : decode cX2_putBeside 134 = .ok (.iload 7, 2) := by decide +kernel
theorem dX2_putBeside_136 : decode cX2_putBeside 136 = .ok (.iadd, 1) := by decide +kernel
theorem dX2_putBeside_137 : decode cX2_putBeside 137 = .ok (.iload 5, 2) := by decide +kernel
theorem dX2_putBeside_139 : decode cX2_putBeside 139 = .ok (.iload 8, 2) := by decide +kernel
theorem dX2_putBeside_141 : decode cX2_putBeside 141 = .ok (.iadd, 1) := by decide +kernel
theorem dX2_putBeside_142 : decode cX2_putBeside 142 = .ok (.aload_n 2, 1) := by decide +kernel
theorem dX2_putBeside_143 : decode cX2_putBeside 143 = .ok (.iload 7, 2) := by decide +kernel
theorem dX2_putBeside_145 : decode cX2_putBeside 145 = .ok (.iload 8, 2) := by decide +kernel
theorem dX2_putBeside_147 : decode cX2_putBeside 147 = .ok (.invokevirtual 43, 3) := by decide +kernel
theorem dX2_putBeside_150 : decode cX2_putBeside 150 = .ok (.aload_n 0, 1) := by decide +kernel
theorem dX2_putBeside_151 : decode cX2_putBeside 151 = .ok (.getfield 9, 3) := by decide +kernel
theorem dX2_putBeside_154 : decode cX2_putBeside 154 = .ok (.getfield 46, 3) := by decide +kernel
theorem dX2_putBeside_157 : decode cX2_putBeside 157 = .ok (.iload 6, 2) := by decide +kernel
theorem dX2_putBeside_159 : decode cX2_putBeside 159 = .ok (.iaload, 1) := by decide +kernel
theorem dX2_putBeside_160 : decode cX2_putBeside 160 = .ok (.imul, 1) := by decide +kernel
theorem dX2_putBeside_161 : decode cX2_putBeside 161 = .ok (.invokevirtual 29, 3) := by decide +kernel
theorem dX2_putBeside_164 : decode cX2_putBeside 164 = .ok (.iinc 8 1, 3) := by decide +kernel
theorem dX2_putBeside_167 : decode cX2_putBeside 167 = .ok (.goto (-47), 3) := by decide +kernel
theorem dX2_putBeside_170 : decode cX2_putBeside 170 = .ok (.iinc 7 1, 3) := by decide +kernel
theorem dX2_putBeside_173 : decode cX2_putBeside 173 = .ok (.goto (-67), 3) := by decide +kernel
theorem dX2_putBeside_176 : decode cX2_putBeside 176 = .ok (.iconst 0, 1) := by decide +kernel
theorem dX2_putBeside_177 : decode cX2_putBeside 177 = .ok (.istore 7, 2) := by decide +kernel
theorem dX2_putBeside_179 : decode cX2_putBeside 179 = .ok (.iload 7, 2) := by decide +kernel
theorem dX2_putBeside_181 : decode cX2_putBeside 181 = .ok (.aload_n 1, 1) := by decide +kernel
theorem dX2_putBeside_182 : decode cX2_putBeside 182 = .ok (.getfield 32, 3) := by decide +kernel
theorem dX2_putBeside_185 : decode cX2_putBeside 185 = .ok (.if_icmp .ge 34, 3) := by decide +kernel
theorem dX2_putBeside_188 : decode cX2_putBeside 188 = .ok (.aload_n 3, 1) := by decide +kernel
theorem dX2_putBeside_189 : decode cX2_putBeside 189 = .ok (.aload_n 1, 1) := by decide +kernel
theorem dX2_putBeside_190 : decode cX2_putBeside 190 = .ok (.iconst 0, 1) := by decide +kernel
theorem dX2_putBeside_191 : decode cX2_putBeside 191 = .ok (.iload 7, 2) := by decide +kernel
theorem dX2_putBeside_193 : decode cX2_putBeside 193 = .ok (.invokevirtual 36, 3) := by decide +kernel
theorem dX2_putBeside_196 : decode cX2_putBeside 196 = .ok (.aload_n 1, 1) := by decide +kernel
theorem dX2_putBeside_197 : decode cX2_putBeside 197 = .ok (.iconst 1, 1) := by decide +kernel
theorem dX2_putBeside_198 : decode cX2_putBeside 198 = .ok (.iload 7, 2) := by decide +kernel
theorem dX2_putBeside_200 : decode cX2_putBeside 200 = .ok (.invokevirtual 36, 3) := by decide +kernel
theorem dX2_putBeside_203 : decode cX2_putBeside 203 = .ok (.aload_n 1, 1) := by decide +kernel
theorem dX2_putBeside_204 : decode cX2_putBeside 204 = .ok (.iconst 2, 1) := by decide +kernel
theorem dX2_putBeside_205 : decode cX2_putBeside 205 = .ok (.iload 7, 2) := by decide +kernel
theorem dX2_putBeside_207 : decode cX2_putBeside 207 = .ok (.invokevirtual 36, 3) := by decide +kernel
theorem dX2_putBeside_210 : decode cX2_putBeside 210 = .ok (.invokevirtual 40, 3) := by decide +kernel
theorem dX2_putBeside_213 : decode cX2_putBeside 213 = .ok (.iinc 7 1, 3) := by decide +kernel
theorem dX2_putBeside_216 : decode cX2_putBeside 216 = .ok (.goto (-37), 3) := by decide +kernel
theorem dX2_putBeside_219 : decode cX2_putBeside 219 = .ok (.iconst 0, 1) := by decide +kernel
theorem dX2_putBeside_220 : decode cX2_putBeside 220 = .ok (.istore 7, 2) := by decide +kernel
theorem dX2_putBeside_222 : decode cX2_putBeside 222 = .ok (.iload 7, 2) := by decide +kernel
theorem dX2_putBeside_224 : decode cX2_putBeside 224 = .ok (.aload_n 2, 1) := by decide +kernel
theorem dX2_putBeside_225 : decode cX2_putBeside 225 = .ok (.getfield 32, 3) := by decide +kernel
theorem dX2_putBeside_228 : decode cX2_putBeside 228 = .ok (.if_icmp .ge 67, 3) := by decide +kernel
theorem dX2_putBeside_231 : decode cX2_putBeside 231 = .ok (.aload_n 3, 1) := by decide +kernel
theorem dX2_putBeside_232 : decode cX2_putBeside 232 = .ok (.aload_n 2, 1) := by decide +kernel
theorem dX2_putBeside_233 : decode cX2_putBeside 233 = .ok (.iconst 0, 1) := by decide +kernel
theorem dX2_putBeside_234 : decode cX2_putBeside 234 = .ok (.iload 7, 2) := by decide +kernel
theorem dX2_putBeside_236 : decode cX2_putBeside 236 = .ok (.invokevirtual 36, 3) := by decide +kernel
theorem dX2_putBeside_239 : decode cX2_putBeside 239 = .ok (.aload_n 0, 1) := by decide +kernel
theorem dX2_putBeside_240 : decode cX2_putBeside 240 = .ok (.getfield 9, 3) := by decide +kernel
theorem dX2_putBeside_243 : decode cX2_putBeside 243 = .ok (.getfield 46, 3) := by decide +kernel
theorem dX2_putBeside_246 : decode cX2_putBeside 246 = .ok (.iload 4, 2) := by decide +kernel
theorem dX2_putBeside_248 : decode cX2_putBeside 248 = .ok (.iaload, 1) := by decide +kernel
theorem dX2_putBeside_249 : decode cX2_putBeside 249 = .ok (.imul, 1) := by decide +kernel
theorem dX2_putBeside_250 : decode cX2_putBeside 250 = .ok (.aload_n 2, 1) := by decide +kernel
theorem dX2_putBeside_251 : decode cX2_putBeside 251 = .ok (.iconst 1, 1) := by decide +kernel
theorem dX2_putBeside_252 : decode cX2_putBeside 252 = .ok (.iload 7, 2) := by decide +kernel
theorem dX2_putBeside_254 : decode cX2_putBeside 254 = .ok (.invokevirtual 36, 3) := by decide +kernel
theorem dX2_putBeside_257 : decode cX2_putBeside 257 = .ok (.aload_n 0, 1) := by decide +kernel
theorem dX2_putBeside_258 : decode cX2_putBeside 258 = .ok (.getfield 9, 3) := by decide +kernel
theorem dX2_putBeside_261 : decode cX2_putBeside 261 = .ok (.getfield 46, 3) := by decide +kernel
theorem dX2_putBeside_264 : decode cX2_putBeside 264 = .ok (.iload 5, 2) := by decide +kernel
theorem dX2_putBeside_266 : decode cX2_putBeside 266 = .ok (.iaload, 1) := by decide +kernel
theorem dX2_putBeside_267 : decode cX2_putBeside 267 = .ok (.imul, 1) := by decide +kernel
theorem dX2_putBeside_268 : decode cX2_putBeside 268 = .ok (.aload_n 2, 1) := by decide +kernel
theorem dX2_putBeside_269 : decode cX2_putBeside 269 = .ok (.iconst 2, 1) := by decide +kernel
theorem dX2_putBeside_270 : decode cX2_putBeside 270 = .ok (.iload 7, 2) := by decide +kernel
theorem dX2_putBeside_272 : decode cX2_putBeside 272 = .ok (.invokevirtual 36, 3) := by decide +kernel
theorem dX2_putBeside_275 : decode cX2_putBeside 275 = .ok (.aload_n 0, 1) := by decide +kernel
theorem dX2_putBeside_276 : decode cX2_putBeside 276 = .ok (.getfield 9, 3) := by decide +kernel
theorem dX2_putBeside_279 : decode cX2_putBeside 279 = .ok (.getfield 46, 3) := by decide +kernel
theorem dX2_putBeside_282 : decode cX2_putBeside 282 = .ok (.iload 6, 2) := by decide +kernel
theorem dX2_putBeside_284 : decode cX2_putBeside 284 = .ok (.iaload, 1) := by decide +kernel
theorem dX2_putBeside_285 : decode cX2_putBeside 285 = .ok (.imul, 1) := by decide +kernel
theorem dX2_putBeside_286 : decode cX2_putBeside 286 = .ok (.invokevirtual 40, 3) := by decide +kernel
theorem dX2_putBeside_289 : decode cX2_putBeside 289 = .ok (.iinc 7 1, 3) := by decide +kernel
theorem dX2_putBeside_292 : decode cX2_putBeside 292 = .ok (.goto (-70), 3) := by decide +kernel
theorem dX2_putBeside_295 : decode cX2_putBeside 295 = .ok (.return_, 1) := by decide +kernel
theorem dX2_putWithin_0 : decode cX2_putWithin 0 = .ok (.aload_n 3, 1) := by decide +kernel
theorem dX2_putWithin_1 : decode cX2_putWithin 1 = .ok (.aload_n 1, 1) := by decide +kernel
theorem dX2_putWithin_2 : decode cX2_putWithin 2 = .ok (.getfield 15, 3) := by decide +kernel
theorem dX2_putWithin_5 : decode cX2_putWithin 5 = .ok (.iconst 0, 1) := by decide +kernel
theorem dX2_putWithin_6 : decode cX2_putWithin 6 = .ok (.iaload, 1) := by decide +kernel
theorem dX2_putWithin_7 : decode cX2_putWithin 7 = .ok (.aload_n 2, 1) := by decide +kernel
theorem dX2_putWithin_8 : decode cX2_putWithin 8 = .ok (.getfield 15, 3) := by decide +kernel
theorem dX2_putWithin_11 : decode cX2_putWithin 11 = .ok (.iconst 0, 1) := by decide +kernel
theorem dX2_putWithin_12 : decode cX2_putWithin 12 = .ok (.iaload, 1) := by decide +kernel
theorem dX2_putWithin_13 : decode cX2_putWithin 13 = .ok (.imul, 1) := by decide +kernel
theorem dX2_putWithin_14 : decode cX2_putWithin 14 = .ok (.aload_n 1, 1) := by decide +kernel
theorem dX2_putWithin_15 : decode cX2_putWithin 15 = .ok (.getfield 15, 3) := by decide +kernel
theorem dX2_putWithin_18 : decode cX2_putWithin 18 = .ok (.iconst 1, 1) := by decide +kernel
theorem dX2_putWithin_19 : decode cX2_putWithin 19 = .ok (.iaload, 1) := by decide +kernel
theorem dX2_putWithin_20 : decode cX2_putWithin 20 = .ok (.aload_n 2, 1) := by decide +kernel
theorem dX2_putWithin_21 : decode cX2_putWithin 21 = .ok (.getfield 15, 3) := by decide +kernel
theorem dX2_putWithin_24 : decode cX2_putWithin 24 = .ok (.iconst 1, 1) := by decide +kernel
theorem dX2_putWithin_25 : decode cX2_putWithin 25 = .ok (.iaload, 1) := by decide +kernel
theorem dX2_putWithin_26 : decode cX2_putWithin 26 = .ok (.imul, 1) := by decide +kernel
theorem dX2_putWithin_27 : decode cX2_putWithin 27 = .ok (.aload_n 1, 1) := by decide +kernel
theorem dX2_putWithin_28 : decode cX2_putWithin 28 = .ok (.getfield 15, 3) := by decide +kernel
theorem dX2_putWithin_31 : decode cX2_putWithin 31 = .ok (.iconst 2, 1) := by decide +kernel
theorem dX2_putWithin_32 : decode cX2_putWithin 32 = .ok (.iaload, 1) := by decide +kernel
theorem dX2_putWithin_33 : decode cX2_putWithin 33 = .ok (.aload_n 2, 1) := by decide +kernel
theorem dX2_putWithin_34 : decode cX2_putWithin 34 = .ok (.getfield 15, 3) := by decide +kernel
theorem dX2_putWithin_37 : decode cX2_putWithin 37 = .ok (.iconst 2, 1) := by decide +kernel
theorem dX2_putWithin_38 : decode cX2_putWithin 38 = .ok (.iaload, 1) := by decide +kernel
theorem dX2_putWithin_39 : decode cX2_putWithin 39 = .ok (.imul, 1) := by decide +kernel
theorem dX2_putWithin_40 : decode cX2_putWithin 40 = .ok (.invokevirtual 21, 3) := by decide +kernel
theorem dX2_putWithin_43 : decode cX2_putWithin 43 = .ok (.iconst 0, 1) := by decide +kernel
theorem dX2_putWithin_44 : decode cX2_putWithin 44 = .ok (.istore 4, 2) := by decide +kernel
theorem dX2_putWithin_46 : decode cX2_putWithin 46 = .ok (.iload 4, 2) := by decide +kernel
theorem dX2_putWithin_48 : decode cX2_putWithin 48 = .ok (.aload_n 1, 1) := by decide +kernel
theorem dX2_putWithin_49 : decode cX2_putWithin 49 = .ok (.getfield 15, 3) := by decide +kernel
theorem dX2_putWithin_52 : decode cX2_putWithin 52 = .ok (.iconst 0, 1) := by decide +kernel
theorem dX2_putWithin_53 : decode cX2_putWithin 53 = .ok (.iaload, 1) := by decide +kernel
theorem dX2_putWithin_54 : decode cX2_putWithin 54 = .ok (.if_icmp .ge 40, 3) := by decide +kernel
theorem dX2_putWithin_57 : decode cX2_putWithin 57 = .ok (.iconst 0, 1) := by decide +kernel
theorem dX2_putWithin_58 : decode cX2_putWithin 58 = .ok (.istore 5, 2) := by decide +kernel
theorem dX2_putWithin_60 : decode cX2_putWithin 60 = .ok (.iload 5, 2) := by decide +kernel
theorem dX2_putWithin_62 : decode cX2_putWithin 62 = .ok (.aload_n 1, 1) := by decide +kernel
theorem dX2_putWithin_63 : decode cX2_putWithin 63 = .ok (.getfield 15, 3) := by decide +kernel
theorem dX2_putWithin_66 : decode cX2_putWithin 66 = .ok (.iconst 1, 1) := by decide +kernel
theorem dX2_putWithin_67 : decode cX2_putWithin 67 = .ok (.iaload, 1) := by decide +kernel
theorem dX2_putWithin_68 : decode cX2_putWithin 68 = .ok (.if_icmp .ge 20, 3) := by decide +kernel
theorem dX2_putWithin_71 : decode cX2_putWithin 71 = .ok (.aload_n 0, 1) := by decide +kernel
theorem dX2_putWithin_72 : decode cX2_putWithin 72 = .ok (.aload_n 1, 1) := by decide +kernel
theorem dX2_putWithin_73 : decode cX2_putWithin 73 = .ok (.iload 4, 2) := by decide +kernel
theorem dX2_putWithin_75 : decode cX2_putWithin 75 = .ok (.iload 5, 2) := by decide +kernel
theorem dX2_putWithin_77 : decode cX2_putWithin 77 = .ok (.aload_n 2, 1) := by decide +kernel
theorem dX2_putWithin_78 : decode cX2_putWithin 78 = .ok (.aload_n 3, 1) := by decide +kernel
theorem dX2_putWithin_79 : decode cX2_putWithin 79 = .ok (.invokevirtual 51, 3) := by decide +kernel
theorem dX2_putWithin_82 : decode cX2_putWithin 82 = .ok (.iinc 5 1, 3) := by decide +kernel
theorem dX2_putWithin_85 : decode cX2_putWithin 85 = .ok (.goto (-25), 3) := by decide +kernel
theorem dX2_putWithin_88 : decode cX2_putWithin 88 = .ok (.iinc 4 1, 3) := by decide +kernel
theorem dX2_putWithin_91 : decode cX2_putWithin 91 = .ok (.goto (-45), 3) := by decide +kernel
theorem dX2_putWithin_94 : decode cX2_putWithin 94 = .ok (.iconst 0, 1) := by decide +kernel
theorem dX2_putWithin_95 : decode cX2_putWithin 95 = .ok (.istore 4, 2) := by decide +kernel
theorem dX2_putWithin_97 : decode cX2_putWithin 97 = .ok (.iload 4, 2) := by decide +kernel
theorem dX2_putWithin_99 : decode cX2_putWithin 99 = .ok (.aload_n 1, 1) := by decide +kernel
theorem dX2_putWithin_100 : decode cX2_putWithin 100 = .ok (.getfield 32, 3) := by decide +kernel
theorem dX2_putWithin_103 : decode cX2_putWithin 103 = .ok (.if_icmp .ge 64, 3) := by decide +kernel
theorem dX2_putWithin_106 : decode cX2_putWithin 106 = .ok (.iconst 0, 1) := by decide +kernel
theorem dX2_putWithin_107 : decode cX2_putWithin 107 = .ok (.istore 5, 2) := by decide +kernel
theorem dX2_putWithin_109 : decode cX2_putWithin 109 = .ok (.iload 5, 2) := by decide +kernel
theorem dX2_putWithin_111 : decode cX2_putWithin 111 = .ok (.aload_n 2, 1) := by decide +kernel
theorem dX2_putWithin_112 : decode cX2_putWithin 112 = .ok (.getfield 32, 3) := by decide +kernel
theorem dX2_putWithin_115 : decode cX2_putWithin 115 = .ok (.if_icmp .ge 46, 3) := by decide +kernel
theorem dX2_putWithin_118 : decode cX2_putWithin 118 = .ok (.aload_n 3, 1) := by decide +kernel
theorem dX2_putWithin_119 : decode cX2_putWithin 119 = .ok (.aload_n 0, 1) := by decide +kernel
theorem dX2_putWithin_120 : decode cX2_putWithin 120 = .ok (.aload_n 1, 1) := by decide +kernel
theorem dX2_putWithin_121 : decode cX2_putWithin 121 = .ok (.iload 4, 2) := by decide +kernel
theorem dX2_putWithin_123 : decode cX2_putWithin 123 = .ok (.aload_n 2, 1) := by decide +kernel
theorem dX2_putWithin_124 : decode cX2_putWithin 124 = .ok (.iload 5, 2) := by decide +kernel
theorem dX2_putWithin_126 : decode cX2_putWithin 126 = .ok (.iconst 0, 1) := by decide +kernel
theorem dX2_putWithin_127 : decode cX2_putWithin 127 = .ok (.invokevirtual 55, 3) := by decide +kernel
theorem dX2_putWithin_130 : decode cX2_putWithin 130 = .ok (.aload_n 0, 1) := by decide +kernel
theorem dX2_putWithin_131 : decode cX2_putWithin 131 = .ok (.aload_n 1, 1) := by decide +kernel
theorem dX2_putWithin_132 : decode cX2_putWithin 132 = .ok (.iload 4, 2) := by decide +kernel
theorem dX2_putWithin_134 : decode cX2_putWithin 134 = .ok (.aload_n 2, 1) := by decide +kernel
theorem dX2_putWithin_135 : decode cX2_putWithin 135 = .ok (.iload 5, 2) := by decide +kernel
theorem dX2_putWithin_137 : decode cX2_putWithin 137 = .ok (.iconst 1, 1) := by decide +kernel
theorem dX2_putWithin_138 : decode cX2_putWithin 138 = .ok (.invokevirtual 55, 3) := by decide +kernel
theorem dX2_putWithin_141 : decode cX2_putWithin 141 = .ok (.aload_n 0, 1) := by decide +kernel
theorem dX2_putWithin_142 : decode cX2_putWithin 142 = .ok (.aload_n 1, 1) := by decide +kernel
theorem dX2_putWithin_143 : decode cX2_putWithin 143 = .ok (.iload 4, 2) := by decide +kernel
theorem dX2_putWithin_145 : decode cX2_putWithin 145 = .ok (.aload_n 2, 1) := by decide +kernel
theorem dX2_putWithin_146 : decode cX2_putWithin 146 = .ok (.iload 5, 2) := by decide +kernel
theorem dX2_putWithin_148 : decode cX2_putWithin 148 = .ok (.iconst 2, 1) := by decide +kernel
theorem dX2_putWithin_149 : decode cX2_putWithin 149 = .ok (.invokevirtual 55, 3) := by decide +kernel
theorem dX2_putWithin_152 : decode cX2_putWithin 152 = .ok (.invokevirtual 40, 3) := by decide +kernel
theorem dX2_putWithin_155 : decode cX2_putWithin 155 = .ok (.iinc 5 1, 3) := by decide +kernel
theorem dX2_putWithin_158 : decode cX2_putWithin 158 = .ok (.goto (-49), 3) := by decide +kernel
theorem dX2_putWithin_161 : decode cX2_putWithin 161 = .ok (.iinc 4 1, 3) := by decide +kernel
theorem dX2_putWithin_164 : decode cX2_putWithin 164 = .ok (.goto (-67), 3) := by decide +kernel
theorem dX2_putWithin_167 : decode cX2_putWithin 167 = .ok (.return_, 1) := by decide +kernel
theorem dX2_fillWithin_0 : decode cX2_fillWithin 0 = .ok (.aload_n 1, 1) := by decide +kernel
theorem dX2_fillWithin_1 : decode cX2_fillWithin 1 = .ok (.iload_n 2, 1) := by decide +kernel
theorem dX2_fillWithin_2 : decode cX2_fillWithin 2 = .ok (.iload_n 3, 1) := by decide +kernel
theorem dX2_fillWithin_3 : decode cX2_fillWithin 3 = .ok (.invokevirtual 43, 3) := by decide +kernel
theorem dX2_fillWithin_6 : decode cX2_fillWithin 6 = .ok (.istore 6, 2) := by decide +kernel
theorem dX2_fillWithin_8 : decode cX2_fillWithin 8 = .ok (.aload 4, 2) := by decide +kernel
theorem dX2_fillWithin_10 : decode cX2_fillWithin 10 = .ok (.getfield 15, 3) := by decide +kernel
theorem dX2_fillWithin_13 : decode cX2_fillWithin 13 = .ok (.iconst 0, 1) := by decide +kernel
theorem dX2_fillWithin_14 : decode cX2_fillWithin 14 = .ok (.iaload, 1) := by decide +kernel
theorem dX2_fillWithin_15 : decode cX2_fillWithin 15 = .ok (.istore 7, 2) := by decide +kernel
theorem dX2_fillWithin_17 : decode cX2_fillWithin 17 = .ok (.aload 4, 2) := by decide +kernel
theorem dX2_fillWithin_19 : decode cX2_fillWithin 19 = .ok (.getfield 15, 3) := by decide +kernel
theorem dX2_fillWithin_22 : decode cX2_fillWithin 22 = .ok (.iconst 1, 1) := by decide +kernel
theorem dX2_fillWithin_23 : decode cX2_fillWithin 23 = .ok (.iaload, 1) := by decide +kernel
theorem dX2_fillWithin_24 : decode cX2_fillWithin 24 = .ok (.istore 8, 2) := by decide +kernel
theorem dX2_fillWithin_26 : decode cX2_fillWithin 26 = .ok (.iconst 0, 1) := by decide +kernel
theorem dX2_fillWithin_27 : decode cX2_fillWithin 27 = .ok (.istore 9, 2) := by decide +kernel
theorem dX2_fillWithin_29 : decode cX2_fillWithin 29 = .ok (.iload 9, 2) := by decide +kernel
theorem dX2_fillWithin_31 : decode cX2_fillWithin 31 = .ok (.iload 7, 2) := by decide +kernel
theorem dX2_fillWithin_33 : decode cX2_fillWithin 33 = .ok (.if_icmp .ge 73, 3) := by decide +kernel
theorem dX2_fillWithin_36 : decode cX2_fillWithin 36 = .ok (.iconst 0, 1) := by decide +kernel
theorem dX2_fillWithin_37 : decode cX2_fillWithin 37 = .ok (.istore 10, 2) := by decide +kernel
theorem dX2_fillWithin_39 : decode cX2_fillWithin 39 = .ok (.iload 10, 2) := by decide +kernel
theorem dX2_fillWithin_41 : decode cX2_fillWithin 41 = .ok (.iload 8, 2) := by decide +kernel
theorem dX2_fillWithin_43 : decode cX2_fillWithin 43 = .ok (.if_icmp .ge 57, 3) := by decide +kernel
theorem dX2_fillWithin_46 : decode cX2_fillWithin 46 = .ok (.aload_n 0, 1) := by decide +kernel
theorem dX2_fillWithin_47 : decode cX2_fillWithin 47 = .ok (.getfield 9, 3) := by decide +kernel
theorem dX2_fillWithin_50 : decode cX2_fillWithin 50 = .ok (.iload 6, 2) := by decide +kernel
theorem dX2_fillWithin_52 : decode cX2_fillWithin 52 = .ok (.aload 4, 2) := by decide +kernel
theorem dX2_fillWithin_54 : decode cX2_fillWithin 54 = .ok (.iload 9, 2) := by decide +kernel
theorem dX2_fillWithin_56 : decode cX2_fillWithin 56 = .ok (.iload 10, 2) := by decide +kernel
theorem dX2_fillWithin_58 : decode cX2_fillWithin 58 = .ok (.invokevirtual 43, 3) := by decide +kernel
theorem dX2_fillWithin_61 : decode cX2_fillWithin 61 = .ok (.aload 4, 2) := by decide +kernel
theorem dX2_fillWithin_63 : decode cX2_fillWithin 63 = .ok (.getfield 15, 3) := by decide +kernel
theorem dX2_fillWithin_66 : decode cX2_fillWithin 66 = .ok (.iconst 2, 1) := by decide +kernel
theorem dX2_fillWithin_67 : decode cX2_fillWithin 67 = .ok (.iaload, 1) := by decide +kernel
theorem dX2_fillWithin_68 : decode cX2_fillWithin 68 = .ok (.invokevirtual 59, 3) := by decide +kernel
theorem dX2_fillWithin_71 : decode cX2_fillWithin 71 = .ok (.istore 11, 2) := by decide +kernel
theorem dX2_fillWithin_73 : decode cX2_fillWithin 73 = .ok (.aload 5, 2) := by decide +kernel
theorem dX2_fillWithin_75 : decode cX2_fillWithin 75 = .ok (.iload_n 2, 1) := by decide +kernel
theorem dX2_fillWithin_76 : decode cX2_fillWithin 76 = .ok (.iload 7, 2) := by decide +kernel
theorem dX2_fillWithin_78 : decode cX2_fillWithin 78 = .ok (.imul, 1) := by decide +kernel
theorem dX2_fillWithin_79 : decode cX2_fillWithin 79 = .ok (.iload 9, 2) := by decide +kernel
theorem dX2_fillWithin_81 : decode cX2_fillWithin 81 = .ok (.iadd, 1) := by decide +kernel
theorem dX2_fillWithin_82 : decode cX2_fillWithin 82 = .ok (.iload_n 3, 1) := by decide +kernel
theorem dX2_fillWithin_83 : decode cX2_fillWithin 83 = .ok (.iload 8, 2) := by decide +kernel
theorem dX2_fillWithin_85 : decode cX2_fillWithin 85 = .ok (.imul, 1) := by decide +kernel
theorem dX2_fillWithin_86 : decode cX2_fillWithin 86 = .ok (.iload 10, 2) := by decide +kernel
theorem dX2_fillWithin_88 : decode cX2_fillWithin 88 = .ok (.iadd, 1) := by decide +kernel
theorem dX2_fillWithin_89 : decode cX2_fillWithin 89 = .ok (.iload 11, 2) := by decide +kernel
theorem dX2_fillWithin_91 : decode cX2_fillWithin 91 = .ok (.invokevirtual 29, 3) := by decide +kernel
theorem dX2_fillWithin_94 : decode cX2_fillWithin 94 = .ok (.iinc 10 1, 3) := by decide +kernel
theorem dX2_fillWithin_97 : decode cX2_fillWithin 97 = .ok (.goto (-58), 3) := by decide +kernel
theorem dX2_fillWithin_100 : decode cX2_fillWithin 100 = .ok (.iinc 9 1, 3) := by decide +kernel
theorem dX2_fillWithin_103 : decode cX2_fillWithin 103 = .ok (.goto (-74), 3) := by decide +kernel
theorem dX2_fillWithin_106 : decode cX2_fillWithin 106 = .ok (.return_, 1) := by decide +kernel
theorem dX2_rowWithin_0 : decode cX2_rowWithin 0 = .ok (.aload_n 0, 1) := by decide +kernel
theorem dX2_rowWithin_1 : decode cX2_rowWithin 1 = .ok (.getfield 9, 3) := by decide +kernel
theorem dX2_rowWithin_4 : decode cX2_rowWithin 4 = .ok (.aload_n 1, 1) := by decide +kernel
theorem dX2_rowWithin_5 : decode cX2_rowWithin 5 = .ok (.iload 5, 2) := by decide +kernel
theorem dX2_rowWithin_7 : decode cX2_rowWithin 7 = .ok (.iload_n 2, 1) := by decide +kernel
theorem dX2_rowWithin_8 : decode cX2_rowWithin 8 = .ok (.invokevirtual 36, 3) := by decide +kernel
theorem dX2_rowWithin_11 : decode cX2_rowWithin 11 = .ok (.aload_n 3, 1) := by decide +kernel
theorem dX2_rowWithin_12 : decode cX2_rowWithin 12 = .ok (.iload 5, 2) := by decide +kernel
theorem dX2_rowWithin_14 : decode cX2_rowWithin 14 = .ok (.iload 4, 2) := by decide +kernel
theorem dX2_rowWithin_16 : decode cX2_rowWithin 16 = .ok (.invokevirtual 36, 3) := by decide +kernel
theorem dX2_rowWithin_19 : decode cX2_rowWithin 19 = .ok (.aload_n 3, 1) := by decide +kernel
theorem dX2_rowWithin_20 : decode cX2_rowWithin 20 = .ok (.getfield 15, 3) := by decide +kernel
theorem dX2_rowWithin_23 : decode cX2_rowWithin 23 = .ok (.iload 5, 2) := by decide +kernel
theorem dX2_rowWithin_25 : decode cX2_rowWithin 25 = .ok (.iaload, 1) := by decide +kernel
theorem dX2_rowWithin_26 : decode cX2_rowWithin 26 = .ok (.invokevirtual 59, 3) := by decide +kernel
theorem dX2_rowWithin_29 : decode cX2_rowWithin 29 = .ok (.ireturn, 1) := by decide +kernel
end
section
theorem dX3_init_0 : decode cX3_init 0 = .ok (.aload_n 0, 1) := by decide +kernel
theorem dX3_init_1 : decode cX3_init 1 = .ok (.invokespecial 3, 3) := by decide +kernel
theorem dX3_init_4 : decode cX3_init 4 = .ok (.aload_n 0, 1) := by decide +kernel
theorem dX3_init_5 : decode cX3_init 5 = .ok (.aload_n 1, 1) := by decide +kernel
theorem dX3_init_6 : decode cX3_init 6 = .ok (.putfield 9, 3) := by decide +kernel
theorem dX3_init_9 : decode cX3_init 9 = .ok (.return_, 1) := by decide +kernel
theorem dX3_countMoves_0 : decode cX3_countMoves 0 = .ok (.iconst 0, 1) := by decide +kernel
theorem dX3_countMoves_1 : decode cX3_countMoves 1 = .ok (.istore_n 2, 1) := by decide +kernel
theorem dX3_countMoves_2 : decode cX3_countMoves 2 = .ok (.iconst 0, 1) := by decide +kernel
theorem dX3_countMoves_3 : decode cX3_countMoves 3 = .ok (.istore_n 3, 1) := by decide +kernel
theorem dX3_countMoves_4 : decode cX3_countMoves 4 = .ok (.iload_n 3, 1) := by decide +kernel
theorem dX3_countMoves_5 : decode cX3_countMoves 5 = .ok (.iconst 3, 1) := by decide +kernel
theorem dX3_countMoves_6 : decode cX3_countMoves 6 = .ok (.if_icmp .ge 37, 3) := by decide +kernel
theorem dX3_countMoves_9 : decode cX3_countMoves 9 = .ok (.iconst 0, 1) := by decide +kernel
theorem dX3_countMoves_10 : decode cX3_countMoves 10 = .ok (.istore 4, 2) := by decide +kernel
theorem dX3_countMoves_12 : decode cX3_countMoves 12 = .ok (.iload 4, 2) := by decide +kernel
theorem dX3_countMoves_14 : decode cX3_countMoves 14 = .ok (.aload_n 1, 1) := by decide +kernel
theorem dX3_countMoves_15 : decode cX3_countMoves 15 = .ok (.getfield 15, 3) := by decide +kernel
theorem dX3_countMoves_18 : decode cX3_countMoves 18 = .ok (.if_icmp .ge 19, 3) := by decide +kernel
theorem dX3_countMoves_21 : decode cX3_countMoves 21 = .ok (.iload_n 2, 1) := by decide +kernel
theorem dX3_countMoves_22 : decode cX3_countMoves 22 = .ok (.aload_n 1, 1) := by decide +kernel
theorem dX3_countMoves_23 : decode cX3_countMoves 23 = .ok (.iload_n 3, 1) := by decide +kernel
theorem dX3_countMoves_24 : decode cX3_countMoves 24 = .ok (.iload 4, 2) := by decide +kernel
theorem dX3_countMoves_26 : decode cX3_countMoves 26 = .ok (.invokevirtual 21, 3) := by decide +kernel
theorem dX3_countMoves_29 : decode cX3_countMoves 29 = .ok (.iadd, 1) := by decide +kernel
theorem dX3_countMoves_30 : decode cX3_countMoves 30 = .ok (.istore_n 2, 1) := by decide +kernel
theorem dX3_countMoves_31 : decode cX3_countMoves 31 = .ok (.iinc 4 1, 3) := by decide +kernel
theorem dX3_countMoves_34 : decode cX3_countMoves 34 = .ok (.goto (-22), 3) := by decide +kernel
theorem dX3_countMoves_37 : decode cX3_countMoves 37 = .ok (.iinc 3 1, 3) := by decide +kernel
theorem dX3_countMoves_40 : decode cX3_countMoves 40 = .ok (.goto (-36), 3) := by decide +kernel
theorem dX3_countMoves_43 : decode cX3_countMoves 43 = .ok (.iload_n 2, 1) := by decide +kernel
theorem dX3_countMoves_44 : decode cX3_countMoves 44 = .ok (.ireturn, 1) := by decide +kernel
theorem dX3_doNumbered_0 : decode cX3_doNumbered 0 = .ok (.iload_n 2, 1) := by decide +kernel
theorem dX3_doNumbered_1 : decode cX3_doNumbered 1 = .ok (.istore_n 3, 1) := by decide +kernel
theorem dX3_doNumbered_2 : decode cX3_doNumbered 2 = .ok (.iconst 0, 1) := by decide +kernel
theorem dX3_doNumbered_3 : decode cX3_doNumbered 3 = .ok (.istore 4, 2) := by decide +kernel
theorem dX3_doNumbered_5 : decode cX3_doNumbered 5 = .ok (.iload 4, 2) := by decide +kernel
theorem dX3_doNumbered_7 : decode cX3_doNumbered 7 = .ok (.iconst 3, 1) := by decide +kernel
theorem dX3_doNumbered_8 : decode cX3_doNumbered 8 = .ok (.if_icmp .ge 68, 3) := by decide +kernel
theorem dX3_doNumbered_11 : decode cX3_doNumbered 11 = .ok (.iconst 0, 1) := by decide +kernel
theorem dX3_doNumbered_12 : decode cX3_doNumbered 12 = .ok (.istore 5, 2) := by decide +kernel
theorem dX3_doNumbered_14 : decode cX3_doNumbered 14 = .ok (.iload 5, 2) := by decide +kernel
theorem dX3_doNumbered_16 : decode cX3_doNumbered 16 = .ok (.aload_n 1, 1) := by decide +kernel
theorem dX3_doNumbered_17 : decode cX3_doNumbered 17 = .ok (.getfield 15, 3) := by decide +kernel
theorem dX3_doNumbered_20 : decode cX3_doNumbered 20 = .ok (.if_icmp .ge 50, 3) := by decide +kernel
theorem dX3_doNumbered_23 : decode cX3_doNumbered 23 = .ok (.aload_n 1, 1) := by decide +kernel
theorem dX3_doNumbered_24 : decode cX3_doNumbered 24 = .ok (.iload 4, 2) := by decide +kernel
theorem dX3_doNumbered_26 : decode cX3_doNumbered 26 = .ok (.iload 5, 2) := by decide +kernel
theorem dX3_doNumbered_28 : decode cX3_doNumbered 28 = .ok (.invokevirtual 21, 3) := by decide +kernel
theorem dX3_doNumbered_31 : decode cX3_doNumbered 31 = .ok (.istore 6, 2) := by decide +kernel
theorem dX3_doNumbered_33 : decode cX3_doNumbered 33 = .ok (.iload_n 3, 1) := by decide +kernel
theorem dX3_doNumbered_34 : decode cX3_doNumbered 34 = .ok (.iload 6, 2) := by decide +kernel
theorem dX3_doNumbered_36 : decode cX3_doNumbered 36 = .ok (.if_icmp .ge 23, 3) := by decide +kernel
theorem dX3_doNumbered_39 : decode cX3_doNumbered 39 = .ok (.aload_n 0, 1) := by decide +kernel
theorem dX3_doNumbered_40 : decode cX3_doNumbered 40 = .ok (.aload_n 1, 1) := by decide +kernel
theorem dX3_doNumbered_41 : decode cX3_doNumbered 41 = .ok (.iload 4, 2) := by decide +kernel
theorem dX3_doNumbered_43 : decode cX3_doNumbered 43 = .ok (.iload 5, 2) := by decide +kernel
theorem dX3_doNumbered_45 : decode cX3_doNumbered 45 = .ok (.aload_n 0, 1) := by decide +kernel
theorem dX3_doNumbered_46 : decode cX3_doNumbered 46 = .ok (.aload_n 1, 1) := by decide +kernel
theorem dX3_doNumbered_47 : decode cX3_doNumbered 47 = .ok (.iload 4, 2) := by decide +kernel
theorem dX3_doNumbered_49 : decode cX3_doNumbered 49 = .ok (.iload 5, 2) := by decide +kernel
theorem dX3_doNumbered_51 : decode cX3_doNumbered 51 = .ok (.iload_n 3, 1) := by decide +kernel
theorem dX3_doNumbered_52 : decode cX3_doNumbered 52 = .ok (.invokevirtual 25, 3) := by decide +kernel
theorem dX3_doNumbered_55 : decode cX3_doNumbered 55 = .ok (.invokevirtual 29, 3) := by decide +kernel
theorem dX3_doNumbered_58 : decode cX3_doNumbered 58 = .ok (.return_, 1) := by decide +kernel
theorem dX3_doNumbered_59 : decode cX3_doNumbered 59 = .ok (.iload_n 3, 1) := by decide +kernel
theorem dX3_doNumbered_60 : decode cX3_doNumbered 60 = .ok (.iload 6, 2) := by decide +kernel
theorem dX3_doNumbered_62 : decode cX3_doNumbered 62 = .ok (.isub, 1) := by decide +kernel
theorem dX3_doNumbered_63 : decode cX3_doNumbered 63 = .ok (.istore_n 3, 1) := by decide +kernel
theorem dX3_doNumbered_64 : decode cX3_doNumbered 64 = .ok (.iinc 5 1, 3) := by decide +kernel
theorem dX3_doNumbered_67 : decode cX3_doNumbered 67 = .ok (.goto (-53), 3) := by decide +kernel
theorem dX3_doNumbered_70 : decode cX3_doNumbered 70 = .ok (.iinc 4 1, 3) := by decide +kernel
theorem dX3_doNumbered_73 : decode cX3_doNumbered 73 = .ok (.goto (-68), 3) := by decide +kernel
theorem dX3_doNumbered_76 : decode cX3_doNumbered 76 = .ok (.return_, 1) := by decide +kernel
theorem dX3_mateOf_0 : decode cX3_mateOf 0 = .ok (.iload 4, 2) := by decide +kernel
theorem dX3_mateOf_2 : decode cX3_mateOf 2 = .ok (.istore 5, 2) := by decide +kernel
theorem dX3_mateOf_4 : decode cX3_mateOf 4 = .ok (.iconst 0, 1) := by decide +kernel
theorem dX3_mateOf_5 : decode cX3_mateOf 5 = .ok (.istore 6, 2) := by decide +kernel
theorem dX3_mateOf_7 : decode cX3_mateOf 7 = .ok (.iload 6, 2) := by decide +kernel
theorem dX3_mateOf_9 : decode cX3_mateOf 9 = .ok (.aload_n 1, 1) := by decide +kernel
theorem dX3_mateOf_10 : decode cX3_mateOf 10 = .ok (.getfield 15, 3) := by decide +kernel
theorem dX3_mateOf_13 : decode cX3_mateOf 13 = .ok (.if_icmp .ge 37, 3) := by decide +kernel
theorem dX3_mateOf_16 : decode cX3_mateOf 16 = .ok (.iload 6, 2) := by decide +kernel
theorem dX3_mateOf_18 : decode cX3_mateOf 18 = .ok (.iload_n 3, 1) := by decide +kernel
theorem dX3_mateOf_19 : decode cX3_mateOf 19 = .ok (.if_icmp .eq 25, 3) := by decide +kernel
theorem dX3_mateOf_22 : decode cX3_mateOf 22 = .ok (.aload_n 1, 1) := by decide +kernel
theorem dX3_mateOf_23 : decode cX3_mateOf 23 = .ok (.iload_n 2, 1) := by decide +kernel
theorem dX3_mateOf_24 : decode cX3_mateOf 24 = .ok (.iload_n 3, 1) := by decide +kernel
theorem dX3_mateOf_25 : decode cX3_mateOf 25 = .ok (.iload 6, 2) := by decide +kernel
theorem dX3_mateOf_27 : decode cX3_mateOf 27 = .ok (.invokevirtual 33, 3) := by decide +kernel
theorem dX3_mateOf_30 : decode cX3_mateOf 30 = .ok (.ifCond .eq 14, 3) := by decide +kernel
theorem dX3_mateOf_33 : decode cX3_mateOf 33 = .ok (.iload 5, 2) := by decide +kernel
theorem dX3_mateOf_35 : decode cX3_mateOf 35 = .ok (.ifCond .ne 6, 3) := by decide +kernel
theorem dX3_mateOf_38 : decode cX3_mateOf 38 = .ok (.iload 6, 2) := by decide +kernel
theorem dX3_mateOf_40 : decode cX3_mateOf 40 = .ok (.ireturn, 1) := by decide +kernel
theorem dX3_mateOf_41 : decode cX3_mateOf 41 = .ok (.iinc 5 (-1), 3) := by decide +kernel
theorem dX3_mateOf_44 : decode cX3_mateOf 44 = .ok (.iinc 6 1, 3) := by decide +kernel
theorem dX3_mateOf_47 : decode cX3_mateOf 47 = .ok (.goto (-40), 3) := by decide +kernel
theorem dX3_mateOf_50 : decode cX3_mateOf 50 = .ok (.iload_n 3, 1) := by decide +kernel
theorem dX3_mateOf_51 : decode cX3_mateOf 51 = .ok (.ireturn, 1) := by decide +kernel
theorem dX3_doMove_0 : decode cX3_doMove 0 = .ok (.iload_n 2, 1) := by decide +kernel
theorem dX3_doMove_1 : decode cX3_doMove 1 = .ok (.iconst 1, 1) := by decide +kernel
theorem dX3_doMove_2 : decode cX3_doMove 2 = .ok (.iadd, 1) := by decide +kernel
theorem dX3_doMove_3 : decode cX3_doMove 3 = .ok (.iconst 3, 1) := by decide +kernel
theorem dX3_doMove_4 : decode cX3_doMove 4 = .ok (.irem, 1) := by decide +kernel
theorem dX3_doMove_5 : decode cX3_doMove 5 = .ok (.istore 5, 2) := by decide +kernel
theorem dX3_doMove_7 : decode cX3_doMove 7 = .ok (.iload_n 2, 1) := by decide +kernel
theorem dX3_doMove_8 : decode cX3_doMove 8 = .ok (.iconst 2, 1) := by decide +kernel
theorem dX3_doMove_9 : decode cX3_doMove 9 = .ok (.iadd, 1) := by decide +kernel
theorem dX3_doMove_10 : decode cX3_doMove 10 = .ok (.iconst 3, 1) := by decide +kernel
theorem dX3_doMove_11 : decode cX3_doMove 11 = .ok (.irem, 1) := by decide +kernel
theorem dX3_doMove_12 : decode cX3_doMove 12 = .ok (.istore 6, 2) := by decide +kernel
theorem dX3_doMove_14 : decode cX3_doMove 14 = .ok (.aload_n 1, 1) := by decide +kernel
theorem dX3_doMove_15 : decode cX3_doMove 15 = .ok (.iload_n 2, 1) := by decide +kernel
theorem dX3_doMove_16 : decode cX3_doMove 16 = .ok (.iload_n 3, 1) := by decide +kernel
theorem dX3_doMove_17 : decode cX3_doMove 17 = .ok (.iload 4, 2) := by decide +kernel
theorem dX3_doMove_19 : decode cX3_doMove 19 = .ok (.invokevirtual 37, 3) := by decide +kernel
theorem dX3_doMove_22 : decode cX3_doMove 22 = .ok (.istore 7, 2) := by decide +kernel
theorem dX3_doMove_24 : decode cX3_doMove 24 = .ok (.aload_n 0, 1) := by decide +kernel
theorem dX3_doMove_25 : decode cX3_doMove 25 = .ok (.getfield 9, 3) := by decide +kernel
theorem dX3_doMove_28 : decode cX3_doMove 28 = .ok (.iconst 0, 1) := by decide +kernel
theorem dX3_doMove_29 : decode cX3_doMove 29 = .ok (.iload 7, 2) := by decide +kernel
theorem dX3_doMove_31 : decode cX3_doMove 31 = .ok (.aload_n 1, 1) := by decide +kernel
theorem dX3_doMove_32 : decode cX3_doMove 32 = .ok (.iload 5, 2) := by decide +kernel
theorem dX3_doMove_34 : decode cX3_doMove 34 = .ok (.iload 4, 2) := by decide +kernel
theorem dX3_doMove_36 : decode cX3_doMove 36 = .ok (.invokevirtual 41, 3) := by decide +kernel
theorem dX3_doMove_39 : decode cX3_doMove 39 = .ok (.invokevirtual 44, 3) := by decide +kernel
theorem dX3_doMove_42 : decode cX3_doMove 42 = .ok (.istore 8, 2) := by decide +kernel
theorem dX3_doMove_44 : decode cX3_doMove 44 = .ok (.aload_n 1, 1) := by decide +kernel
theorem dX3_doMove_45 : decode cX3_doMove 45 = .ok (.iload_n 2, 1) := by decide +kernel
theorem dX3_doMove_46 : decode cX3_doMove 46 = .ok (.iload 4, 2) := by decide +kernel
theorem dX3_doMove_48 : decode cX3_doMove 48 = .ok (.aload_n 1, 1) := by decide +kernel
theorem dX3_doMove_49 : decode cX3_doMove 49 = .ok (.iload_n 2, 1) := by decide +kernel
theorem dX3_doMove_50 : decode cX3_doMove 50 = .ok (.iload_n 3, 1) := by decide +kernel
theorem dX3_doMove_51 : decode cX3_doMove 51 = .ok (.invokevirtual 41, 3) := by decide +kernel
theorem dX3_doMove_54 : decode cX3_doMove 54 = .ok (.invokevirtual 49, 3) := by decide +kernel
theorem dX3_doMove_57 : decode cX3_doMove 57 = .ok (.aload_n 1, 1) := by decide +kernel
theorem dX3_doMove_58 : decode cX3_doMove 58 = .ok (.iload 5, 2) := by decide +kernel
theorem dX3_doMove_60 : decode cX3_doMove 60 = .ok (.iload 4, 2) := by decide +kernel
theorem dX3_doMove_62 : decode cX3_doMove 62 = .ok (.iload 8, 2) := by decide +kernel
theorem dX3_doMove_64 : decode cX3_doMove 64 = .ok (.invokevirtual 49, 3) := by decide +kernel
theorem dX3_doMove_67 : decode cX3_doMove 67 = .ok (.aload_n 1, 1) := by decide +kernel
theorem dX3_doMove_68 : decode cX3_doMove 68 = .ok (.iload 5, 2) := by decide +kernel
theorem dX3_doMove_70 : decode cX3_doMove 70 = .ok (.iload_n 3, 1) := by decide +kernel
theorem dX3_doMove_71 : decode cX3_doMove 71 = .ok (.aload_n 0, 1) := by decide +kernel
theorem dX3_doMove_72 : decode cX3_doMove 72 = .ok (.getfield 9, 3) := by decide +kernel
theorem dX3_doMove_75 : decode cX3_doMove 75 = .ok (.aload_n 1, 1) := by decide +kernel
theorem dX3_doMove_76 : decode cX3_doMove 76 = .ok (.iload 5, 2) := by decide +kernel
theorem dX3_doMove_78 : decode cX3_doMove 78 = .ok (.iload_n 3, 1) := by decide +kernel
theorem dX3_doMove_79 : decode cX3_doMove 79 = .ok (.invokevirtual 41, 3) := by decide +kernel
theorem dX3_doMove_82 : decode cX3_doMove 82 = .ok (.iconst 1, 1) := by decide +kernel
theorem dX3_doMove_83 : decode cX3_doMove 83 = .ok (.iload 8, 2) := by decide +kernel
theorem dX3_doMove_85 : decode cX3_doMove 85 = .ok (.invokevirtual 44, 3) := by decide +kernel
theorem dX3_doMove_88 : decode cX3_doMove 88 = .ok (.invokevirtual 49, 3) := by decide +kernel
theorem dX3_doMove_91 : decode cX3_doMove 91 = .ok (.aload_n 1, 1) := by decide +kernel
theorem dX3_doMove_92 : decode cX3_doMove 92 = .ok (.iload 6, 2) := by decide +kernel
theorem dX3_doMove_94 : decode cX3_doMove 94 = .ok (.iload 4, 2) := by decide +kernel
theorem dX3_doMove_96 : decode cX3_doMove 96 = .ok (.aload_n 0, 1) := by decide +kernel
theorem dX3_doMove_97 : decode cX3_doMove 97 = .ok (.getfield 9, 3) := by decide +kernel
theorem dX3_doMove_100 : decode cX3_doMove 100 = .ok (.aload_n 1, 1) := by decide +kernel
theorem dX3_doMove_101 : decode cX3_doMove 101 = .ok (.iload 6, 2) := by decide +kernel
theorem dX3_doMove_103 : decode cX3_doMove 103 = .ok (.iload 4, 2) := by decide +kernel
theorem dX3_doMove_105 : decode cX3_doMove 105 = .ok (.invokevirtual 41, 3) := by decide +kernel
theorem dX3_doMove_108 : decode cX3_doMove 108 = .ok (.iconst 1, 1) := by decide +kernel
theorem dX3_doMove_109 : decode cX3_doMove 109 = .ok (.aload_n 1, 1) := by decide +kernel
theorem dX3_doMove_110 : decode cX3_doMove 110 = .ok (.iload 6, 2) := by decide +kernel
theorem dX3_doMove_112 : decode cX3_doMove 112 = .ok (.iload_n 3, 1) := by decide +kernel
theorem dX3_doMove_113 : decode cX3_doMove 113 = .ok (.invokevirtual 41, 3) := by decide +kernel
theorem dX3_doMove_116 : decode cX3_doMove 116 = .ok (.invokevirtual 53, 3) := by decide +kernel
theorem dX3_doMove_119 : decode cX3_doMove 119 = .ok (.invokevirtual 49, 3) := by decide +kernel
theorem dX3_doMove_122 : decode cX3_doMove 122 = .ok (.return_, 1) := by decide +kernel
theorem dX3_lessen_0 : decode cX3_lessen 0 = .ok (.aload_n 1, 1) := by decide +kernel
theorem dX3_lessen_1 : decode cX3_lessen 1 = .ok (.getfield 15, 3) := by decide +kernel
theorem dX3_lessen_4 : decode cX3_lessen 4 = .ok (.istore_n 2, 1) := by decide +kernel
theorem dX3_lessen_5 : decode cX3_lessen 5 = .ok (.iconst 0, 1) := by decide +kernel
theorem dX3_lessen_6 : decode cX3_lessen 6 = .ok (.istore_n 3, 1) := by decide +kernel
theorem dX3_lessen_7 : decode cX3_lessen 7 = .ok (.iload_n 3, 1) := by decide +kernel
theorem dX3_lessen_8 : decode cX3_lessen 8 = .ok (.iload_n 2, 1) := by decide +kernel
theorem dX3_lessen_9 : decode cX3_lessen 9 = .ok (.if_icmp .ge 28, 3) := by decide +kernel
theorem dX3_lessen_12 : decode cX3_lessen 12 = .ok (.aload_n 0, 1) := by decide +kernel
theorem dX3_lessen_13 : decode cX3_lessen 13 = .ok (.aload_n 1, 1) := by decide +kernel
theorem dX3_lessen_14 : decode cX3_lessen 14 = .ok (.invokevirtual 56, 3) := by decide +kernel
theorem dX3_lessen_17 : decode cX3_lessen 17 = .ok (.ifCond .ne 14, 3) := by decide +kernel
theorem dX3_lessen_20 : decode cX3_lessen 20 = .ok (.aload_n 0, 1) := by decide +kernel
theorem dX3_lessen_21 : decode cX3_lessen 21 = .ok (.aload_n 1, 1) := by decide +kernel
theorem dX3_lessen_22 : decode cX3_lessen 22 = .ok (.invokevirtual 60, 3) := by decide +kernel
theorem dX3_lessen_25 : decode cX3_lessen 25 = .ok (.ifCond .ne 6, 3) := by decide +kernel
theorem dX3_lessen_28 : decode cX3_lessen 28 = .ok (.goto 9, 3) := by decide +kernel
theorem dX3_lessen_31 : decode cX3_lessen 31 = .ok (.iinc 3 1, 3) := by decide +kernel
theorem dX3_lessen_34 : decode cX3_lessen 34 = .ok (.goto (-27), 3) := by decide +kernel
theorem dX3_lessen_37 : decode cX3_lessen 37 = .ok (.iload_n 2, 1) := by decide +kernel
theorem dX3_lessen_38 : decode cX3_lessen 38 = .ok (.aload_n 1, 1) := by decide +kernel
theorem dX3_lessen_39 : decode cX3_lessen 39 = .ok (.getfield 15, 3) := by decide +kernel
theorem dX3_lessen_42 : decode cX3_lessen 42 = .ok (.isub, 1) := by decide +kernel
theorem dX3_lessen_43 : decode cX3_lessen 43 = .ok (.ireturn, 1) := by decide +kernel
theorem dX3_dropNoughts_0 : decode cX3_dropNoughts 0 = .ok (.iconst 0, 1) := by decide +kernel
theorem dX3_dropNoughts_1 : decode cX3_dropNoughts 1 = .ok (.istore_n 2, 1) := by decide +kernel
theorem dX3_dropNoughts_2 : decode cX3_dropNoughts 2 = .ok (.iload_n 2, 1) := by decide +kernel
theorem dX3_dropNoughts_3 : decode cX3_dropNoughts 3 = .ok (.aload_n 1, 1) := by decide +kernel
theorem dX3_dropNoughts_4 : decode cX3_dropNoughts 4 = .ok (.getfield 15, 3) := by decide +kernel
theorem dX3_dropNoughts_7 : decode cX3_dropNoughts 7 = .ok (.if_icmp .ge 43, 3) := by decide +kernel
theorem dX3_dropNoughts_10 : decode cX3_dropNoughts 10 = .ok (.aload_n 1, 1) := by decide +kernel
theorem dX3_dropNoughts_11 : decode cX3_dropNoughts 11 = .ok (.iconst 0, 1) := by decide +kernel
theorem dX3_dropNoughts_12 : decode cX3_dropNoughts 12 = .ok (.iload_n 2, 1) := by decide +kernel
theorem dX3_dropNoughts_13 : decode cX3_dropNoughts 13 = .ok (.invokevirtual 41, 3) := by decide +kernel
theorem dX3_dropNoughts_16 : decode cX3_dropNoughts 16 = .ok (.ifCond .eq 21, 3) := by decide +kernel
theorem dX3_dropNoughts_19 : decode cX3_dropNoughts 19 = .ok (.aload_n 1, 1) := by decide +kernel
theorem dX3_dropNoughts_20 : decode cX3_dropNoughts 20 = .ok (.iconst 1, 1) := by decide +kernel
theorem dX3_dropNoughts_21 : decode cX3_dropNoughts 21 = .ok (.iload_n 2, 1) := by decide +kernel
theorem dX3_dropNoughts_22 : decode cX3_dropNoughts 22 = .ok (.invokevirtual 41, 3) := by decide +kernel
theorem dX3_dropNoughts_25 : decode cX3_dropNoughts 25 = .ok (.ifCond .eq 12, 3) := by decide +kernel
theorem dX3_dropNoughts_28 : decode cX3_dropNoughts 28 = .ok (.aload_n 1, 1) := by decide +kernel
theorem dX3_dropNoughts_29 : decode cX3_dropNoughts 29 = .ok (.iconst 2, 1) := by decide +kernel
theorem dX3_dropNoughts_30 : decode cX3_dropNoughts 30 = .ok (.iload_n 2, 1) := by decide +kernel
theorem dX3_dropNoughts_31 : decode cX3_dropNoughts 31 = .ok (.invokevirtual 41, 3) := by decide +kernel
theorem dX3_dropNoughts_34 : decode cX3_dropNoughts 34 = .ok (.ifCond .ne 10, 3) := by decide +kernel
theorem dX3_dropNoughts_37 : decode cX3_dropNoughts 37 = .ok (.aload_n 1, 1) := by decide +kernel
theorem dX3_dropNoughts_38 : decode cX3_dropNoughts 38 = .ok (.iload_n 2, 1) := by decide +kernel
theorem dX3_dropNoughts_39 : decode cX3_dropNoughts 39 = .ok (.invokevirtual 63, 3) := by decide +kernel
theorem dX3_dropNoughts_42 : decode cX3_dropNoughts 42 = .ok (.iconst 1, 1) := by decide +kernel
theorem dX3_dropNoughts_43 : decode cX3_dropNoughts 43 = .ok (.ireturn, 1) := by decide +kernel
theorem dX3_dropNoughts_44 : decode cX3_dropNoughts 44 = .ok (.iinc 2 1, 3) := by decide +kernel
theorem dX3_dropNoughts_47 : decode cX3_dropNoughts 47 = .ok (.goto (-45), 3) := by decide +kernel
theorem dX3_dropNoughts_50 : decode cX3_dropNoughts 50 = .ok (.iconst 0, 1) := by decide +kernel
theorem dX3_dropNoughts_51 : decode cX3_dropNoughts 51 = .ok (.ireturn, 1) := by decide +kernel
theorem dX3_joinAlike_0 : decode cX3_joinAlike 0 = .ok (.iconst 0, 1) := by decide +kernel
theorem dX3_joinAlike_1 : decode cX3_joinAlike 1 = .ok (.istore_n 2, 1) := by decide +kernel
theorem dX3_joinAlike_2 : decode cX3_joinAlike 2 = .ok (.iload_n 2, 1) := by decide +kernel
theorem dX3_joinAlike_3 : decode cX3_joinAlike 3 = .ok (.aload_n 1, 1) := by decide +kernel
theorem dX3_joinAlike_4 : decode cX3_joinAlike 4 = .ok (.getfield 15, 3) := by decide +kernel
theorem dX3_joinAlike_7 : decode cX3_joinAlike 7 = .ok (.if_icmp .ge 66, 3) := by decide +kernel
theorem dX3_joinAlike_10 : decode cX3_joinAlike 10 = .ok (.aload_n 0, 1) := by decide +kernel
theorem dX3_joinAlike_11 : decode cX3_joinAlike 11 = .ok (.aload_n 1, 1) := by decide +kernel
theorem dX3_joinAlike_12 : decode cX3_joinAlike 12 = .ok (.iload_n 2, 1) := by decide +kernel
theorem dX3_joinAlike_13 : decode cX3_joinAlike 13 = .ok (.invokevirtual 67, 3) := by decide +kernel
theorem dX3_joinAlike_16 : decode cX3_joinAlike 16 = .ok (.iconst 2, 1) := by decide +kernel
theorem dX3_joinAlike_17 : decode cX3_joinAlike 17 = .ok (.if_icmp .ge 6, 3) := by decide +kernel
theorem dX3_joinAlike_20 : decode cX3_joinAlike 20 = .ok (.goto 47, 3) := by decide +kernel
theorem dX3_joinAlike_23 : decode cX3_joinAlike 23 = .ok (.iload_n 2, 1) := by decide +kernel
theorem dX3_joinAlike_24 : decode cX3_joinAlike 24 = .ok (.iconst 1, 1) := by decide +kernel
theorem dX3_joinAlike_25 : decode cX3_joinAlike 25 = .ok (.iadd, 1) := by decide +kernel
theorem dX3_joinAlike_26 : decode cX3_joinAlike 26 = .ok (.istore_n 3, 1) := by decide +kernel
theorem dX3_joinAlike_27 : decode cX3_joinAlike 27 = .ok (.iload_n 3, 1) := by decide +kernel
theorem dX3_joinAlike_28 : decode cX3_joinAlike 28 = .ok (.aload_n 1, 1) := by decide +kernel
theorem dX3_joinAlike_29 : decode cX3_joinAlike 29 = .ok (.getfield 15, 3) := by decide +kernel
theorem dX3_joinAlike_32 : decode cX3_joinAlike 32 = .ok (.if_icmp .ge 35, 3) := by decide +kernel
theorem dX3_joinAlike_35 : decode cX3_joinAlike 35 = .ok (.aload_n 0, 1) := by decide +kernel
theorem dX3_joinAlike_36 : decode cX3_joinAlike 36 = .ok (.aload_n 1, 1) := by decide +kernel
theorem dX3_joinAlike_37 : decode cX3_joinAlike 37 = .ok (.iload_n 2, 1) := by decide +kernel
theorem dX3_joinAlike_38 : decode cX3_joinAlike 38 = .ok (.iload_n 3, 1) := by decide +kernel
theorem dX3_joinAlike_39 : decode cX3_joinAlike 39 = .ok (.invokevirtual 71, 3) := by decide +kernel
theorem dX3_joinAlike_42 : decode cX3_joinAlike 42 = .ok (.istore 4, 2) := by decide +kernel
theorem dX3_joinAlike_44 : decode cX3_joinAlike 44 = .ok (.iload 4, 2) := by decide +kernel
theorem dX3_joinAlike_46 : decode cX3_joinAlike 46 = .ok (.iconst (-1), 1) := by decide +kernel
theorem dX3_joinAlike_47 : decode cX3_joinAlike 47 = .ok (.if_icmp .eq 14, 3) := by decide +kernel
theorem dX3_joinAlike_50 : decode cX3_joinAlike 50 = .ok (.aload_n 0, 1) := by decide +kernel
theorem dX3_joinAlike_51 : decode cX3_joinAlike 51 = .ok (.aload_n 1, 1) := by decide +kernel
theorem dX3_joinAlike_52 : decode cX3_joinAlike 52 = .ok (.iload_n 2, 1) := by decide +kernel
theorem dX3_joinAlike_53 : decode cX3_joinAlike 53 = .ok (.iload_n 3, 1) := by decide +kernel
theorem dX3_joinAlike_54 : decode cX3_joinAlike 54 = .ok (.iload 4, 2) := by decide +kernel
theorem dX3_joinAlike_56 : decode cX3_joinAlike 56 = .ok (.invokevirtual 75, 3) := by decide +kernel
theorem dX3_joinAlike_59 : decode cX3_joinAlike 59 = .ok (.iconst 1, 1) := by decide +kernel
theorem dX3_joinAlike_60 : decode cX3_joinAlike 60 = .ok (.ireturn, 1) := by decide +kernel
theorem dX3_joinAlike_61 : decode cX3_joinAlike 61 = .ok (.iinc 3 1, 3) := by decide +kernel
theorem dX3_joinAlike_64 : decode cX3_joinAlike 64 = .ok (.goto (-37), 3) := by decide +kernel
theorem dX3_joinAlike_67 : decode cX3_joinAlike 67 = .ok (.iinc 2 1, 3) := by decide +kernel
theorem dX3_joinAlike_70 : decode cX3_joinAlike 70 = .ok (.goto (-68), 3) := by decide +kernel
theorem dX3_joinAlike_73 : decode cX3_joinAlike 73 = .ok (.iconst 0, 1) := by decide +kernel
theorem dX3_joinAlike_74 : decode cX3_joinAlike 74 = .ok (.ireturn, 1) := by decide +kernel
theorem dX3_waysWithMates_0 : decode cX3_waysWithMates 0 = .ok (.iconst 0, 1) := by decide +kernel
theorem dX3_waysWithMates_1 : decode cX3_waysWithMates 1 = .ok (.istore_n 3, 1) := by decide +kernel
theorem dX3_waysWithMates_2 : decode cX3_waysWithMates 2 = .ok (.iconst 0, 1) := by decide +kernel
theorem dX3_waysWithMates_3 : decode cX3_waysWithMates 3 = .ok (.istore 4, 2) := by decide +kernel
theorem dX3_waysWithMates_5 : decode cX3_waysWithMates 5 = .ok (.iload 4, 2) := by decide +kernel
theorem dX3_waysWithMates_7 : decode cX3_waysWithMates 7 = .ok (.iconst 3, 1) := by decide +kernel
theorem dX3_waysWithMates_8 : decode cX3_waysWithMates 8 = .ok (.if_icmp .ge 22, 3) := by decide +kernel
theorem dX3_waysWithMates_11 : decode cX3_waysWithMates 11 = .ok (.aload_n 1, 1) := by decide +kernel
theorem dX3_waysWithMates_12 : decode cX3_waysWithMates 12 = .ok (.iload 4, 2) := by decide +kernel
theorem dX3_waysWithMates_14 : decode cX3_waysWithMates 14 = .ok (.iload_n 2, 1) := by decide +kernel
theorem dX3_waysWithMates_15 : decode cX3_waysWithMates 15 = .ok (.invokevirtual 21, 3) := by decide +kernel
theorem dX3_waysWithMates_18 : decode cX3_waysWithMates 18 = .ok (.ifCond .le 6, 3) := by decide +kernel
theorem dX3_waysWithMates_21 : decode cX3_waysWithMates 21 = .ok (.iinc 3 1, 3) := by decide +kernel
theorem dX3_waysWithMates_24 : decode cX3_waysWithMates 24 = .ok (.iinc 4 1, 3) := by decide +kernel
theorem dX3_waysWithMates_27 : decode cX3_waysWithMates 27 = .ok (.goto (-22), 3) := by decide +kernel
theorem dX3_waysWithMates_30 : decode cX3_waysWithMates 30 = .ok (.iload_n 3, 1) := by decide +kernel
theorem dX3_waysWithMates_31 : decode cX3_waysWithMates 31 = .ok (.ireturn, 1) := by decide +kernel
theorem dX3_thirdBesideAlike_0 : decode cX3_thirdBesideAlike 0 = .ok (.aload_n 1, 1) := by decide +kernel
theorem dX3_thirdBesideAlike_1 : decode cX3_thirdBesideAlike 1 = .ok (.iconst 0, 1) := by decide +kernel
theorem dX3_thirdBesideAlike_2 : decode cX3_thirdBesideAlike 2 = .ok (.iload_n 2, 1) := by decide +kernel
theorem dX3_thirdBesideAlike_3 : decode cX3_thirdBesideAlike 3 = .ok (.iload_n 3, 1) := by decide +kernel
theorem dX3_thirdBesideAlike_4 : decode cX3_thirdBesideAlike 4 = .ok (.invokevirtual 33, 3) := by decide +kernel
theorem dX3_thirdBesideAlike_7 : decode cX3_thirdBesideAlike 7 = .ok (.istore 4, 2) := by decide +kernel
theorem dX3_thirdBesideAlike_9 : decode cX3_thirdBesideAlike 9 = .ok (.aload_n 1, 1) := by decide +kernel
theorem dX3_thirdBesideAlike_10 : decode cX3_thirdBesideAlike 10 = .ok (.iconst 1, 1) := by decide +kernel
theorem dX3_thirdBesideAlike_11 : decode cX3_thirdBesideAlike 11 = .ok (.iload_n 2, 1) := by decide +kernel
theorem dX3_thirdBesideAlike_12 : decode cX3_thirdBesideAlike 12 = .ok (.iload_n 3, 1) := by decide +kernel
theorem dX3_thirdBesideAlike_13 : decode cX3_thirdBesideAlike 13 = .ok (.invokevirtual 33, 3) := by decide +kernel
theorem dX3_thirdBesideAlike_16 : decode cX3_thirdBesideAlike 16 = .ok (.istore 5, 2) := by decide +kernel
theorem dX3_thirdBesideAlike_18 : decode cX3_thirdBesideAlike 18 = .ok (.iload 4, 2) := by decide +kernel
theorem dX3_thirdBesideAlike_20 : decode cX3_thirdBesideAlike 20 = .ok (.ifCond .eq 10, 3) := by decide +kernel
theorem dX3_thirdBesideAlike_23 : decode cX3_thirdBesideAlike 23 = .ok (.iload 5, 2) := by decide +kernel
theorem dX3_thirdBesideAlike_25 : decode cX3_thirdBesideAlike 25 = .ok (.ifCond .eq 5, 3) := by decide +kernel
theorem dX3_thirdBesideAlike_28 : decode cX3_thirdBesideAlike 28 = .ok (.iconst 2, 1) := by decide +kernel
theorem dX3_thirdBesideAlike_29 : decode cX3_thirdBesideAlike 29 = .ok (.ireturn, 1) := by decide +kernel
theorem dX3_thirdBesideAlike_30 : decode cX3_thirdBesideAlike 30 = .ok (.iload 4, 2) := by decide +kernel
theorem dX3_thirdBesideAlike_32 : decode cX3_thirdBesideAlike 32 = .ok (.ifCond .ne 8, 3) := by decide +kernel
theorem dX3_thirdBesideAlike_35 : decode cX3_thirdBesideAlike 35 = .ok (.iload 5, 2) := by decide +kernel
theorem dX3_thirdBesideAlike_37 : decode cX3_thirdBesideAlike 37 = .ok (.ifCond .eq 13, 3) := by decide +kernel
theorem dX3_thirdBesideAlike_40 : decode cX3_thirdBesideAlike 40 = .ok (.aload_n 1, 1) := by decide +kernel
theorem dX3_thirdBesideAlike_41 : decode cX3_thirdBesideAlike 41 = .ok (.iconst 2, 1) := by decide +kernel
theorem dX3_thirdBesideAlike_42 : decode cX3_thirdBesideAlike 42 = .ok (.iload_n 2, 1) := by decide +kernel
theorem dX3_thirdBesideAlike_43 : decode cX3_thirdBesideAlike 43 = .ok (.iload_n 3, 1) := by decide +kernel
theorem dX3_thirdBesideAlike_44 : decode cX3_thirdBesideAlike 44 = .ok (.invokevirtual 33, 3) := by decide +kernel
theorem dX3_thirdBesideAlike_47 : decode cX3_thirdBesideAlike 47 = .ok (.ifCond .ne 5, 3) := by decide +kernel
theorem dX3_thirdBesideAlike_50 : decode cX3_thirdBesideAlike 50 = .ok (.iconst (-1), 1) := by decide +kernel
theorem dX3_thirdBesideAlike_51 : decode cX3_thirdBesideAlike 51 = .ok (.ireturn, 1) := by decide +kernel
theorem dX3_thirdBesideAlike_52 : decode cX3_thirdBesideAlike 52 = .ok (.iload 4, 2) := by decide +kernel
theorem dX3_thirdBesideAlike_54 : decode cX3_thirdBesideAlike 54 = .ok (.ifCond .eq 7, 3) := by decide +kernel
theorem dX3_thirdBesideAlike_57 : decode cX3_thirdBesideAlike 57 = .ok (.iconst 1, 1) := by decide +kernel
theorem dX3_thirdBesideAlike_58 : decode cX3_thirdBesideAlike 58 = .ok (.goto 4, 3) := by decide +kernel
theorem dX3_thirdBesideAlike_61 : decode cX3_thirdBesideAlike 61 = .ok (.iconst 0, 1) := by decide +kernel
theorem dX3_thirdBesideAlike_62 : decode cX3_thirdBesideAlike 62 = .ok (.ireturn, 1) := by decide +kernel
theorem dX3_join_0 : decode cX3_join 0 = .ok (.aload_n 1, 1) := by decide +kernel
theorem dX3_join_1 : decode cX3_join 1 = .ok (.iload 4, 2) := by decide +kernel
theorem dX3_join_3 : decode cX3_join 3 = .ok (.iconst 1, 1) := by decide +kernel
theorem dX3_join_4 : decode cX3_join 4 = .ok (.iadd, 1) := by decide +kernel
theorem dX3_join_5 : decode cX3_join 5 = .ok (.iconst 3, 1) := by decide +kernel
theorem dX3_join_6 : decode cX3_join 6 = .ok (.irem, 1) := by decide +kernel
theorem dX3_join_7 : decode cX3_join 7 = .ok (.iload_n 2, 1) := by decide +kernel
theorem dX3_join_8 : decode cX3_join 8 = .ok (.iload_n 3, 1) := by decide +kernel
theorem dX3_join_9 : decode cX3_join 9 = .ok (.invokevirtual 37, 3) := by decide +kernel
theorem dX3_join_12 : decode cX3_join 12 = .ok (.istore 5, 2) := by decide +kernel
theorem dX3_join_14 : decode cX3_join 14 = .ok (.aload_n 1, 1) := by decide +kernel
theorem dX3_join_15 : decode cX3_join 15 = .ok (.iload 4, 2) := by decide +kernel
theorem dX3_join_17 : decode cX3_join 17 = .ok (.iconst 2, 1) := by decide +kernel
theorem dX3_join_18 : decode cX3_join 18 = .ok (.iadd, 1) := by decide +kernel
theorem dX3_join_19 : decode cX3_join 19 = .ok (.iconst 3, 1) := by decide +kernel
theorem dX3_join_20 : decode cX3_join 20 = .ok (.irem, 1) := by decide +kernel
theorem dX3_join_21 : decode cX3_join 21 = .ok (.iload_n 2, 1) := by decide +kernel
theorem dX3_join_22 : decode cX3_join 22 = .ok (.iload_n 3, 1) := by decide +kernel
theorem dX3_join_23 : decode cX3_join 23 = .ok (.invokevirtual 37, 3) := by decide +kernel
theorem dX3_join_26 : decode cX3_join 26 = .ok (.istore 6, 2) := by decide +kernel
theorem dX3_join_28 : decode cX3_join 28 = .ok (.iload 5, 2) := by decide +kernel
theorem dX3_join_30 : decode cX3_join 30 = .ok (.iload 6, 2) := by decide +kernel
theorem dX3_join_32 : decode cX3_join 32 = .ok (.imul, 1) := by decide +kernel
theorem dX3_join_33 : decode cX3_join 33 = .ok (.aload_n 0, 1) := by decide +kernel
theorem dX3_join_34 : decode cX3_join 34 = .ok (.getfield 9, 3) := by decide +kernel
theorem dX3_join_37 : decode cX3_join 37 = .ok (.getfield 78, 3) := by decide +kernel
theorem dX3_join_40 : decode cX3_join 40 = .ok (.irem, 1) := by decide +kernel
theorem dX3_join_41 : decode cX3_join 41 = .ok (.istore 7, 2) := by decide +kernel
theorem dX3_join_43 : decode cX3_join 43 = .ok (.aload_n 1, 1) := by decide +kernel
theorem dX3_join_44 : decode cX3_join 44 = .ok (.iload 4, 2) := by decide +kernel
theorem dX3_join_46 : decode cX3_join 46 = .ok (.iload_n 2, 1) := by decide +kernel
theorem dX3_join_47 : decode cX3_join 47 = .ok (.aload_n 0, 1) := by decide +kernel
theorem dX3_join_48 : decode cX3_join 48 = .ok (.getfield 9, 3) := by decide +kernel
theorem dX3_join_51 : decode cX3_join 51 = .ok (.aload_n 1, 1) := by decide +kernel
theorem dX3_join_52 : decode cX3_join 52 = .ok (.iload 4, 2) := by decide +kernel
theorem dX3_join_54 : decode cX3_join 54 = .ok (.iload_n 2, 1) := by decide +kernel
theorem dX3_join_55 : decode cX3_join 55 = .ok (.invokevirtual 41, 3) := by decide +kernel
theorem dX3_join_58 : decode cX3_join 58 = .ok (.iload 7, 2) := by decide +kernel
theorem dX3_join_60 : decode cX3_join 60 = .ok (.aload_n 1, 1) := by decide +kernel
theorem dX3_join_61 : decode cX3_join 61 = .ok (.iload 4, 2) := by decide +kernel
theorem dX3_join_63 : decode cX3_join 63 = .ok (.iload_n 3, 1) := by decide +kernel
theorem dX3_join_64 : decode cX3_join 64 = .ok (.invokevirtual 41, 3) := by decide +kernel
theorem dX3_join_67 : decode cX3_join 67 = .ok (.invokevirtual 44, 3) := by decide +kernel
theorem dX3_join_70 : decode cX3_join 70 = .ok (.invokevirtual 49, 3) := by decide +kernel
theorem dX3_join_73 : decode cX3_join 73 = .ok (.aload_n 1, 1) := by decide +kernel
theorem dX3_join_74 : decode cX3_join 74 = .ok (.iload_n 3, 1) := by decide +kernel
theorem dX3_join_75 : decode cX3_join 75 = .ok (.invokevirtual 63, 3) := by decide +kernel
theorem dX3_join_78 : decode cX3_join 78 = .ok (.return_, 1) := by decide +kernel
end
section
theorem dX4_init_0 : decode cX4_init 0 = .ok (.aload_n 0, 1) := by decide +kernel
theorem dX4_init_1 : decode cX4_init 1 = .ok (.invokespecial 3, 3) := by decide +kernel
theorem dX4_init_4 : decode cX4_init 4 = .ok (.aload_n 0, 1) := by decide +kernel
theorem dX4_init_5 : decode cX4_init 5 = .ok (.iconst 3, 1) := by decide +kernel
theorem dX4_init_6 : decode cX4_init 6 = .ok (.newarray .int, 2) := by decide +kernel
theorem dX4_init_8 : decode cX4_init 8 = .ok (.putfield 9, 3) := by decide +kernel
theorem dX4_init_11 : decode cX4_init 11 = .ok (.aload_n 0, 1) := by decide +kernel
theorem dX4_init_12 : decode cX4_init 12 = .ok (.bipush 81, 2) := by decide +kernel
theorem dX4_init_14 : decode cX4_init 14 = .ok (.newarray .int, 2) := by decide +kernel
theorem dX4_init_16 : decode cX4_init 16 = .ok (.putfield 15, 3) := by decide +kernel
theorem dX4_init_19 : decode cX4_init 19 = .ok (.aload_n 0, 1) := by decide +kernel
theorem dX4_init_20 : decode cX4_init 20 = .ok (.bipush 120, 2) := by decide +kernel
theorem dX4_init_22 : decode cX4_init 22 = .ok (.newarray .int, 2) := by decide +kernel
theorem dX4_init_24 : decode cX4_init 24 = .ok (.putfield 18, 3) := by decide +kernel
theorem dX4_init_27 : decode cX4_init 27 = .ok (.aload_n 0, 1) := by decide +kernel
theorem dX4_init_28 : decode cX4_init 28 = .ok (.bipush 120, 2) := by decide +kernel
theorem dX4_init_30 : decode cX4_init 30 = .ok (.newarray .int, 2) := by decide +kernel
theorem dX4_init_32 : decode cX4_init 32 = .ok (.putfield 21, 3) := by decide +kernel
theorem dX4_init_35 : decode cX4_init 35 = .ok (.aload_n 0, 1) := by decide +kernel
theorem dX4_init_36 : decode cX4_init 36 = .ok (.bipush 120, 2) := by decide +kernel
theorem dX4_init_38 : decode cX4_init 38 = .ok (.newarray .int, 2) := by decide +kernel
theorem dX4_init_40 : decode cX4_init 40 = .ok (.putfield 24, 3) := by decide +kernel
theorem dX4_init_43 : decode cX4_init 43 = .ok (.aload_n 0, 1) := by decide +kernel
theorem dX4_init_44 : decode cX4_init 44 = .ok (.aload_n 1, 1) := by decide +kernel
theorem dX4_init_45 : decode cX4_init 45 = .ok (.putfield 27, 3) := by decide +kernel
theorem dX4_init_48 : decode cX4_init 48 = .ok (.aload_n 0, 1) := by decide +kernel
theorem dX4_init_49 : decode cX4_init 49 = .ok (.iconst 1, 1) := by decide +kernel
theorem dX4_init_50 : decode cX4_init 50 = .ok (.iconst 1, 1) := by decide +kernel
theorem dX4_init_51 : decode cX4_init 51 = .ok (.iconst 1, 1) := by decide +kernel
theorem dX4_init_52 : decode cX4_init 52 = .ok (.invokevirtual 31, 3) := by decide +kernel
theorem dX4_init_55 : decode cX4_init 55 = .ok (.return_, 1) := by decide +kernel
theorem dX4_start_0 : decode cX4_start 0 = .ok (.aload_n 0, 1) := by decide +kernel
theorem dX4_start_1 : decode cX4_start 1 = .ok (.getfield 9, 3) := by decide +kernel
theorem dX4_start_4 : decode cX4_start 4 = .ok (.iconst 0, 1) := by decide +kernel
theorem dX4_start_5 : decode cX4_start 5 = .ok (.iload_n 1, 1) := by decide +kernel
theorem dX4_start_6 : decode cX4_start 6 = .ok (.iastore, 1) := by decide +kernel
theorem dX4_start_7 : decode cX4_start 7 = .ok (.aload_n 0, 1) := by decide +kernel
theorem dX4_start_8 : decode cX4_start 8 = .ok (.getfield 9, 3) := by decide +kernel
theorem dX4_start_11 : decode cX4_start 11 = .ok (.iconst 1, 1) := by decide +kernel
theorem dX4_start_12 : decode cX4_start 12 = .ok (.iload_n 2, 1) := by decide +kernel
theorem dX4_start_13 : decode cX4_start 13 = .ok (.iastore, 1) := by decide +kernel
theorem dX4_start_14 : decode cX4_start 14 = .ok (.aload_n 0, 1) := by decide +kernel
theorem dX4_start_15 : decode cX4_start 15 = .ok (.getfield 9, 3) := by decide +kernel
theorem dX4_start_18 : decode cX4_start 18 = .ok (.iconst 2, 1) := by decide +kernel
theorem dX4_start_19 : decode cX4_start 19 = .ok (.iload_n 3, 1) := by decide +kernel
theorem dX4_start_20 : decode cX4_start 20 = .ok (.iastore, 1) := by decide +kernel
theorem dX4_start_21 : decode cX4_start 21 = .ok (.aload_n 0, 1) := by decide +kernel
theorem dX4_start_22 : decode cX4_start 22 = .ok (.getfield 15, 3) := by decide +kernel
theorem dX4_start_25 : decode cX4_start 25 = .ok (.iconst 0, 1) := by decide +kernel
theorem dX4_start_26 : decode cX4_start 26 = .ok (.invokestatic 35, 3) := by decide +kernel
theorem dX4_start_29 : decode cX4_start 29 = .ok (.aload_n 0, 1) := by decide +kernel
theorem dX4_start_30 : decode cX4_start 30 = .ok (.iconst 0, 1) := by decide +kernel
theorem dX4_start_31 : decode cX4_start 31 = .ok (.putfield 41, 3) := by decide +kernel
theorem dX4_start_34 : decode cX4_start 34 = .ok (.return_, 1) := by decide +kernel
theorem dX4_copyFrom_0 : decode cX4_copyFrom 0 = .ok (.aload_n 1, 1) := by decide +kernel
theorem dX4_copyFrom_1 : decode cX4_copyFrom 1 = .ok (.getfield 9, 3) := by decide +kernel
theorem dX4_copyFrom_4 : decode cX4_copyFrom 4 = .ok (.iconst 0, 1) := by decide +kernel
theorem dX4_copyFrom_5 : decode cX4_copyFrom 5 = .ok (.aload_n 0, 1) := by decide +kernel
theorem dX4_copyFrom_6 : decode cX4_copyFrom 6 = .ok (.getfield 9, 3) := by decide +kernel
theorem dX4_copyFrom_9 : decode cX4_copyFrom 9 = .ok (.iconst 0, 1) := by decide +kernel
theorem dX4_copyFrom_10 : decode cX4_copyFrom 10 = .ok (.iconst 3, 1) := by decide +kernel
theorem dX4_copyFrom_11 : decode cX4_copyFrom 11 = .ok (.invokestatic 45, 3) := by decide +kernel
theorem dX4_copyFrom_14 : decode cX4_copyFrom 14 = .ok (.aload_n 1, 1) := by decide +kernel
theorem dX4_copyFrom_15 : decode cX4_copyFrom 15 = .ok (.getfield 15, 3) := by decide +kernel
theorem dX4_copyFrom_18 : decode cX4_copyFrom 18 = .ok (.iconst 0, 1) := by decide +kernel
theorem dX4_copyFrom_19 : decode cX4_copyFrom 19 = .ok (.aload_n 0, 1) := by decide +kernel
theorem dX4_copyFrom_20 : decode cX4_copyFrom 20 = .ok (.getfield 15, 3) := by decide +kernel
theorem dX4_copyFrom_23 : decode cX4_copyFrom 23 = .ok (.iconst 0, 1) := by decide +kernel
theorem dX4_copyFrom_24 : decode cX4_copyFrom 24 = .ok (.bipush 81, 2) := by decide +kernel
theorem dX4_copyFrom_26 : decode cX4_copyFrom 26 = .ok (.invokestatic 45, 3) := by decide +kernel
theorem dX4_copyFrom_29 : decode cX4_copyFrom 29 = .ok (.aload_n 1, 1) := by decide +kernel
theorem dX4_copyFrom_30 : decode cX4_copyFrom 30 = .ok (.getfield 18, 3) := by decide +kernel
theorem dX4_copyFrom_33 : decode cX4_copyFrom 33 = .ok (.iconst 0, 1) := by decide +kernel
theorem dX4_copyFrom_34 : decode cX4_copyFrom 34 = .ok (.aload_n 0, 1) := by decide +kernel
theorem dX4_copyFrom_35 : decode cX4_copyFrom 35 = .ok (.getfield 18, 3) := by decide +kernel
theorem dX4_copyFrom_38 : decode cX4_copyFrom 38 = .ok (.iconst 0, 1) := by decide +kernel
theorem dX4_copyFrom_39 : decode cX4_copyFrom 39 = .ok (.bipush 120, 2) := by decide +kernel
theorem dX4_copyFrom_41 : decode cX4_copyFrom 41 = .ok (.invokestatic 45, 3) := by decide +kernel
theorem dX4_copyFrom_44 : decode cX4_copyFrom 44 = .ok (.aload_n 1, 1) := by decide +kernel
theorem dX4_copyFrom_45 : decode cX4_copyFrom 45 = .ok (.getfield 21, 3) := by decide +kernel
theorem dX4_copyFrom_48 : decode cX4_copyFrom 48 = .ok (.iconst 0, 1) := by decide +kernel
theorem dX4_copyFrom_49 : decode cX4_copyFrom 49 = .ok (.aload_n 0, 1) := by decide +kernel
theorem dX4_copyFrom_50 : decode cX4_copyFrom 50 = .ok (.getfield 21, 3) := by decide +kernel
theorem dX4_copyFrom_53 : decode cX4_copyFrom 53 = .ok (.iconst 0, 1) := by decide +kernel
theorem dX4_copyFrom_54 : decode cX4_copyFrom 54 = .ok (.bipush 120, 2) := by decide +kernel
theorem dX4_copyFrom_56 : decode cX4_copyFrom 56 = .ok (.invokestatic 45, 3) := by decide +kernel
theorem dX4_copyFrom_59 : decode cX4_copyFrom 59 = .ok (.aload_n 1, 1) := by decide +kernel
theorem dX4_copyFrom_60 : decode cX4_copyFrom 60 = .ok (.getfield 24, 3) := by decide +kernel
theorem dX4_copyFrom_63 : decode cX4_copyFrom 63 = .ok (.iconst 0, 1) := by decide +kernel
theorem dX4_copyFrom_64 : decode cX4_copyFrom 64 = .ok (.aload_n 0, 1) := by decide +kernel
theorem dX4_copyFrom_65 : decode cX4_copyFrom 65 = .ok (.getfield 24, 3) := by decide +kernel
theorem dX4_copyFrom_68 : decode cX4_copyFrom 68 = .ok (.iconst 0, 1) := by decide +kernel
theorem dX4_copyFrom_69 : decode cX4_copyFrom 69 = .ok (.bipush 120, 2) := by decide +kernel
theorem dX4_copyFrom_71 : decode cX4_copyFrom 71 = .ok (.invokestatic 45, 3) := by decide +kernel
theorem dX4_copyFrom_74 : decode cX4_copyFrom 74 = .ok (.aload_n 0, 1) := by decide +kernel
theorem dX4_copyFrom_75 : decode cX4_copyFrom 75 = .ok (.aload_n 1, 1) := by decide +kernel
theorem dX4_copyFrom_76 : decode cX4_copyFrom 76 = .ok (.getfield 41, 3) := by decide +kernel
theorem dX4_copyFrom_79 : decode cX4_copyFrom 79 = .ok (.putfield 41, 3) := by decide +kernel
theorem dX4_copyFrom_82 : decode cX4_copyFrom 82 = .ok (.return_, 1) := by decide +kernel
theorem dX4_hasIndex_0 : decode cX4_hasIndex 0 = .ok (.iload_n 2, 1) := by decide +kernel
theorem dX4_hasIndex_1 : decode cX4_hasIndex 1 = .ok (.ifCond .lt 17, 3) := by decide +kernel
theorem dX4_hasIndex_4 : decode cX4_hasIndex 4 = .ok (.iload_n 2, 1) := by decide +kernel
theorem dX4_hasIndex_5 : decode cX4_hasIndex 5 = .ok (.aload_n 0, 1) := by decide +kernel
theorem dX4_hasIndex_6 : decode cX4_hasIndex 6 = .ok (.getfield 9, 3) := by decide +kernel
theorem dX4_hasIndex_9 : decode cX4_hasIndex 9 = .ok (.iload_n 1, 1) := by decide +kernel
theorem dX4_hasIndex_10 : decode cX4_hasIndex 10 = .ok (.iaload, 1) := by decide +kernel
theorem dX4_hasIndex_11 : decode cX4_hasIndex 11 = .ok (.if_icmp .ge 7, 3) := by decide +kernel
theorem dX4_hasIndex_14 : decode cX4_hasIndex 14 = .ok (.iconst 1, 1) := by decide +kernel
theorem dX4_hasIndex_15 : decode cX4_hasIndex 15 = .ok (.goto 4, 3) := by decide +kernel
theorem dX4_hasIndex_18 : decode cX4_hasIndex 18 = .ok (.iconst 0, 1) := by decide +kernel
theorem dX4_hasIndex_19 : decode cX4_hasIndex 19 = .ok (.ireturn, 1) := by decide +kernel
theorem dX4_hasPlace_0 : decode cX4_hasPlace 0 = .ok (.aload_n 0, 1) := by decide +kernel
theorem dX4_hasPlace_1 : decode cX4_hasPlace 1 = .ok (.iconst 0, 1) := by decide +kernel
theorem dX4_hasPlace_2 : decode cX4_hasPlace 2 = .ok (.iload_n 1, 1) := by decide +kernel
theorem dX4_hasPlace_3 : decode cX4_hasPlace 3 = .ok (.invokevirtual 51, 3) := by decide +kernel
theorem dX4_hasPlace_6 : decode cX4_hasPlace 6 = .ok (.ifCond .eq 25, 3) := by decide +kernel
theorem dX4_hasPlace_9 : decode cX4_hasPlace 9 = .ok (.aload_n 0, 1) := by decide +kernel
theorem dX4_hasPlace_10 : decode cX4_hasPlace 10 = .ok (.iconst 1, 1) := by decide +kernel
theorem dX4_hasPlace_11 : decode cX4_hasPlace 11 = .ok (.iload_n 2, 1) := by decide +kernel
theorem dX4_hasPlace_12 : decode cX4_hasPlace 12 = .ok (.invokevirtual 51, 3) := by decide +kernel
theorem dX4_hasPlace_15 : decode cX4_hasPlace 15 = .ok (.ifCond .eq 16, 3) := by decide +kernel
theorem dX4_hasPlace_18 : decode cX4_hasPlace 18 = .ok (.aload_n 0, 1) := by decide +kernel
theorem dX4_hasPlace_19 : decode cX4_hasPlace 19 = .ok (.iconst 2, 1) := by decide +kernel
theorem dX4_hasPlace_20 : decode cX4_hasPlace 20 = .ok (.iload_n 3, 1) := by decide +kernel
theorem dX4_hasPlace_21 : decode cX4_hasPlace 21 = .ok (.invokevirtual 51, 3) := by decide +kernel
theorem dX4_hasPlace_24 : decode cX4_hasPlace 24 = .ok (.ifCond .eq 7, 3) := by decide +kernel
theorem dX4_hasPlace_27 : decode cX4_hasPlace 27 = .ok (.iconst 1, 1) := by decide +kernel
theorem dX4_hasPlace_28 : decode cX4_hasPlace 28 = .ok (.goto 4, 3) := by decide +kernel
theorem dX4_hasPlace_31 : decode cX4_hasPlace 31 = .ok (.iconst 0, 1) := by decide +kernel
theorem dX4_hasPlace_32 : decode cX4_hasPlace 32 = .ok (.ireturn, 1) := by decide +kernel
theorem dX4_hasTime_0 : decode cX4_hasTime 0 = .ok (.iload_n 1, 1) := by decide +kernel
theorem dX4_hasTime_1 : decode cX4_hasTime 1 = .ok (.ifCond .lt 15, 3) := by decide +kernel
theorem dX4_hasTime_4 : decode cX4_hasTime 4 = .ok (.iload_n 1, 1) := by decide +kernel
theorem dX4_hasTime_5 : decode cX4_hasTime 5 = .ok (.aload_n 0, 1) := by decide +kernel
theorem dX4_hasTime_6 : decode cX4_hasTime 6 = .ok (.getfield 41, 3) := by decide +kernel
theorem dX4_hasTime_9 : decode cX4_hasTime 9 = .ok (.if_icmp .ge 7, 3) := by decide +kernel
theorem dX4_hasTime_12 : decode cX4_hasTime 12 = .ok (.iconst 1, 1) := by decide +kernel
theorem dX4_hasTime_13 : decode cX4_hasTime 13 = .ok (.goto 4, 3) := by decide +kernel
theorem dX4_hasTime_16 : decode cX4_hasTime 16 = .ok (.iconst 0, 1) := by decide +kernel
theorem dX4_hasTime_17 : decode cX4_hasTime 17 = .ok (.ireturn, 1) := by decide +kernel
theorem dX4_fits_0 : decode cX4_fits 0 = .ok (.iload_n 2, 1) := by decide +kernel
theorem dX4_fits_1 : decode cX4_fits 1 = .ok (.ifCond .lt 25, 3) := by decide +kernel
theorem dX4_fits_4 : decode cX4_fits 4 = .ok (.iload_n 2, 1) := by decide +kernel
theorem dX4_fits_5 : decode cX4_fits 5 = .ok (.aload_n 0, 1) := by decide +kernel
theorem dX4_fits_6 : decode cX4_fits 6 = .ok (.getfield 27, 3) := by decide +kernel
theorem dX4_fits_9 : decode cX4_fits 9 = .ok (.getfield 55, 3) := by decide +kernel
theorem dX4_fits_12 : decode cX4_fits 12 = .ok (.aload_n 0, 1) := by decide +kernel
theorem dX4_fits_13 : decode cX4_fits 13 = .ok (.getfield 9, 3) := by decide +kernel
theorem dX4_fits_16 : decode cX4_fits 16 = .ok (.iload_n 1, 1) := by decide +kernel
theorem dX4_fits_17 : decode cX4_fits 17 = .ok (.iaload, 1) := by decide +kernel
theorem dX4_fits_18 : decode cX4_fits 18 = .ok (.iaload, 1) := by decide +kernel
theorem dX4_fits_19 : decode cX4_fits 19 = .ok (.if_icmp .ge 7, 3) := by decide +kernel
theorem dX4_fits_22 : decode cX4_fits 22 = .ok (.iconst 1, 1) := by decide +kernel
theorem dX4_fits_23 : decode cX4_fits 23 = .ok (.goto 4, 3) := by decide +kernel
theorem dX4_fits_26 : decode cX4_fits 26 = .ok (.iconst 0, 1) := by decide +kernel
theorem dX4_fits_27 : decode cX4_fits 27 = .ok (.ireturn, 1) := by decide +kernel
theorem dX4_fiberAt_0 : decode cX4_fiberAt 0 = .ok (.aload_n 0, 1) := by decide +kernel
theorem dX4_fiberAt_1 : decode cX4_fiberAt 1 = .ok (.getfield 15, 3) := by decide +kernel
theorem dX4_fiberAt_4 : decode cX4_fiberAt 4 = .ok (.bipush 9, 2) := by decide +kernel
theorem dX4_fiberAt_6 : decode cX4_fiberAt 6 = .ok (.iload_n 1, 1) := by decide +kernel
theorem dX4_fiberAt_7 : decode cX4_fiberAt 7 = .ok (.imul, 1) := by decide +kernel
theorem dX4_fiberAt_8 : decode cX4_fiberAt 8 = .ok (.iload_n 2, 1) := by decide +kernel
theorem dX4_fiberAt_9 : decode cX4_fiberAt 9 = .ok (.iadd, 1) := by decide +kernel
theorem dX4_fiberAt_10 : decode cX4_fiberAt 10 = .ok (.iaload, 1) := by decide +kernel
theorem dX4_fiberAt_11 : decode cX4_fiberAt 11 = .ok (.ireturn, 1) := by decide +kernel
theorem dX4_setFiber_0 : decode cX4_setFiber 0 = .ok (.aload_n 0, 1) := by decide +kernel
theorem dX4_setFiber_1 : decode cX4_setFiber 1 = .ok (.getfield 15, 3) := by decide +kernel
theorem dX4_setFiber_4 : decode cX4_setFiber 4 = .ok (.bipush 9, 2) := by decide +kernel
theorem dX4_setFiber_6 : decode cX4_setFiber 6 = .ok (.iload_n 1, 1) := by decide +kernel
theorem dX4_setFiber_7 : decode cX4_setFiber 7 = .ok (.imul, 1) := by decide +kernel
theorem dX4_setFiber_8 : decode cX4_setFiber 8 = .ok (.iload_n 2, 1) := by decide +kernel
theorem dX4_setFiber_9 : decode cX4_setFiber 9 = .ok (.iadd, 1) := by decide +kernel
theorem dX4_setFiber_10 : decode cX4_setFiber 10 = .ok (.iload_n 3, 1) := by decide +kernel
theorem dX4_setFiber_11 : decode cX4_setFiber 11 = .ok (.iastore, 1) := by decide +kernel
theorem dX4_setFiber_12 : decode cX4_setFiber 12 = .ok (.return_, 1) := by decide +kernel
theorem dX4_number_0 : decode cX4_number 0 = .ok (.aload_n 0, 1) := by decide +kernel
theorem dX4_number_1 : decode cX4_number 1 = .ok (.getfield 27, 3) := by decide +kernel
theorem dX4_number_4 : decode cX4_number 4 = .ok (.aload_n 0, 1) := by decide +kernel
theorem dX4_number_5 : decode cX4_number 5 = .ok (.iload_n 1, 1) := by decide +kernel
theorem dX4_number_6 : decode cX4_number 6 = .ok (.iload_n 2, 1) := by decide +kernel
theorem dX4_number_7 : decode cX4_number 7 = .ok (.invokevirtual 60, 3) := by decide +kernel
theorem dX4_number_10 : decode cX4_number 10 = .ok (.iload_n 3, 1) := by decide +kernel
theorem dX4_number_11 : decode cX4_number 11 = .ok (.invokevirtual 64, 3) := by decide +kernel
theorem dX4_number_14 : decode cX4_number 14 = .ok (.ireturn, 1) := by decide +kernel
theorem dX4_setNumber_0 : decode cX4_setNumber 0 = .ok (.aload_n 0, 1) := by decide +kernel
theorem dX4_setNumber_1 : decode cX4_setNumber 1 = .ok (.iload_n 1, 1) := by decide +kernel
theorem dX4_setNumber_2 : decode cX4_setNumber 2 = .ok (.iload_n 2, 1) := by decide +kernel
theorem dX4_setNumber_3 : decode cX4_setNumber 3 = .ok (.aload_n 0, 1) := by decide +kernel
theorem dX4_setNumber_4 : decode cX4_setNumber 4 = .ok (.getfield 27, 3) := by decide +kernel
theorem dX4_setNumber_7 : decode cX4_setNumber 7 = .ok (.aload_n 0, 1) := by decide +kernel
theorem dX4_setNumber_8 : decode cX4_setNumber 8 = .ok (.iload_n 1, 1) := by decide +kernel
theorem dX4_setNumber_9 : decode cX4_setNumber 9 = .ok (.iload_n 2, 1) := by decide +kernel
theorem dX4_setNumber_10 : decode cX4_setNumber 10 = .ok (.invokevirtual 60, 3) := by decide +kernel
theorem dX4_setNumber_13 : decode cX4_setNumber 13 = .ok (.iload_n 3, 1) := by decide +kernel
theorem dX4_setNumber_14 : decode cX4_setNumber 14 = .ok (.iload 4, 2) := by decide +kernel
theorem dX4_setNumber_16 : decode cX4_setNumber 16 = .ok (.invokevirtual 67, 3) := by decide +kernel
theorem dX4_setNumber_19 : decode cX4_setNumber 19 = .ok (.invokevirtual 71, 3) := by decide +kernel
theorem dX4_setNumber_22 : decode cX4_setNumber 22 = .ok (.return_, 1) := by decide +kernel
theorem dX4_filledPlaces_0 : decode cX4_filledPlaces 0 = .ok (.iconst 0, 1) := by decide +kernel
theorem dX4_filledPlaces_1 : decode cX4_filledPlaces 1 = .ok (.istore_n 1, 1) := by decide +kernel
theorem dX4_filledPlaces_2 : decode cX4_filledPlaces 2 = .ok (.iconst 0, 1) := by decide +kernel
theorem dX4_filledPlaces_3 : decode cX4_filledPlaces 3 = .ok (.istore_n 2, 1) := by decide +kernel
theorem dX4_filledPlaces_4 : decode cX4_filledPlaces 4 = .ok (.iload_n 2, 1) := by decide +kernel
theorem dX4_filledPlaces_5 : decode cX4_filledPlaces 5 = .ok (.aload_n 0, 1) := by decide +kernel
theorem dX4_filledPlaces_6 : decode cX4_filledPlaces 6 = .ok (.getfield 9, 3) := by decide +kernel
theorem dX4_filledPlaces_9 : decode cX4_filledPlaces 9 = .ok (.iconst 0, 1) := by decide +kernel
theorem dX4_filledPlaces_10 : decode cX4_filledPlaces 10 = .ok (.iaload, 1) := by decide +kernel
theorem dX4_filledPlaces_11 : decode cX4_filledPlaces 11 = .ok (.if_icmp .ge 43, 3) := by decide +kernel
theorem dX4_filledPlaces_14 : decode cX4_filledPlaces 14 = .ok (.iconst 0, 1) := by decide +kernel
theorem dX4_filledPlaces_15 : decode cX4_filledPlaces 15 = .ok (.istore_n 3, 1) := by decide +kernel
theorem dX4_filledPlaces_16 : decode cX4_filledPlaces 16 = .ok (.iload_n 3, 1) := by decide +kernel
theorem dX4_filledPlaces_17 : decode cX4_filledPlaces 17 = .ok (.aload_n 0, 1) := by decide +kernel
theorem dX4_filledPlaces_18 : decode cX4_filledPlaces 18 = .ok (.getfield 9, 3) := by decide +kernel
theorem dX4_filledPlaces_21 : decode cX4_filledPlaces 21 = .ok (.iconst 1, 1) := by decide +kernel
theorem dX4_filledPlaces_22 : decode cX4_filledPlaces 22 = .ok (.iaload, 1) := by decide +kernel
theorem dX4_filledPlaces_23 : decode cX4_filledPlaces 23 = .ok (.if_icmp .ge 25, 3) := by decide +kernel
theorem dX4_filledPlaces_26 : decode cX4_filledPlaces 26 = .ok (.iload_n 1, 1) := by decide +kernel
theorem dX4_filledPlaces_27 : decode cX4_filledPlaces 27 = .ok (.aload_n 0, 1) := by decide +kernel
theorem dX4_filledPlaces_28 : decode cX4_filledPlaces 28 = .ok (.getfield 27, 3) := by decide +kernel
theorem dX4_filledPlaces_31 : decode cX4_filledPlaces 31 = .ok (.aload_n 0, 1) := by decide +kernel
theorem dX4_filledPlaces_32 : decode cX4_filledPlaces 32 = .ok (.iload_n 2, 1) := by decide +kernel
theorem dX4_filledPlaces_33 : decode cX4_filledPlaces 33 = .ok (.iload_n 3, 1) := by decide +kernel
theorem dX4_filledPlaces_34 : decode cX4_filledPlaces 34 = .ok (.invokevirtual 60, 3) := by decide +kernel
theorem dX4_filledPlaces_37 : decode cX4_filledPlaces 37 = .ok (.invokevirtual 74, 3) := by decide +kernel
theorem dX4_filledPlaces_40 : decode cX4_filledPlaces 40 = .ok (.iadd, 1) := by decide +kernel
theorem dX4_filledPlaces_41 : decode cX4_filledPlaces 41 = .ok (.istore_n 1, 1) := by decide +kernel
theorem dX4_filledPlaces_42 : decode cX4_filledPlaces 42 = .ok (.iinc 3 1, 3) := by decide +kernel
theorem dX4_filledPlaces_45 : decode cX4_filledPlaces 45 = .ok (.goto (-29), 3) := by decide +kernel
theorem dX4_filledPlaces_48 : decode cX4_filledPlaces 48 = .ok (.iinc 2 1, 3) := by decide +kernel
theorem dX4_filledPlaces_51 : decode cX4_filledPlaces 51 = .ok (.goto (-47), 3) := by decide +kernel
theorem dX4_filledPlaces_54 : decode cX4_filledPlaces 54 = .ok (.iload_n 1, 1) := by decide +kernel
theorem dX4_filledPlaces_55 : decode cX4_filledPlaces 55 = .ok (.ireturn, 1) := by decide +kernel
theorem dX4_line_0 : decode cX4_line 0 = .ok (.iload_n 1, 1) := by decide +kernel
theorem dX4_line_1 : decode cX4_line 1 = .ok (.iconst 2, 1) := by decide +kernel
theorem dX4_line_2 : decode cX4_line 2 = .ok (.if_icmp .ne 10, 3) := by decide +kernel
theorem dX4_line_5 : decode cX4_line 5 = .ok (.aload_n 0, 1) := by decide +kernel
theorem dX4_line_6 : decode cX4_line 6 = .ok (.iload_n 2, 1) := by decide +kernel
theorem dX4_line_7 : decode cX4_line 7 = .ok (.iload_n 3, 1) := by decide +kernel
theorem dX4_line_8 : decode cX4_line 8 = .ok (.invokevirtual 60, 3) := by decide +kernel
theorem dX4_line_11 : decode cX4_line 11 = .ok (.ireturn, 1) := by decide +kernel
theorem dX4_line_12 : decode cX4_line 12 = .ok (.iconst 0, 1) := by decide +kernel
theorem dX4_line_13 : decode cX4_line 13 = .ok (.istore 4, 2) := by decide +kernel
theorem dX4_line_15 : decode cX4_line 15 = .ok (.iconst 0, 1) := by decide +kernel
theorem dX4_line_16 : decode cX4_line 16 = .ok (.istore 5, 2) := by decide +kernel
theorem dX4_line_18 : decode cX4_line 18 = .ok (.iload 5, 2) := by decide +kernel
theorem dX4_line_20 : decode cX4_line 20 = .ok (.aload_n 0, 1) := by decide +kernel
theorem dX4_line_21 : decode cX4_line 21 = .ok (.getfield 9, 3) := by decide +kernel
theorem dX4_line_24 : decode cX4_line 24 = .ok (.iload_n 1, 1) := by decide +kernel
theorem dX4_line_25 : decode cX4_line 25 = .ok (.iaload, 1) := by decide +kernel
theorem dX4_line_26 : decode cX4_line 26 = .ok (.if_icmp .ge 52, 3) := by decide +kernel
theorem dX4_line_29 : decode cX4_line 29 = .ok (.iload_n 1, 1) := by decide +kernel
theorem dX4_line_30 : decode cX4_line 30 = .ok (.ifCond .ne 14, 3) := by decide +kernel
theorem dX4_line_33 : decode cX4_line 33 = .ok (.aload_n 0, 1) := by decide +kernel
theorem dX4_line_34 : decode cX4_line 34 = .ok (.iload 5, 2) := by decide +kernel
theorem dX4_line_36 : decode cX4_line 36 = .ok (.iload_n 2, 1) := by decide +kernel
theorem dX4_line_37 : decode cX4_line 37 = .ok (.iload_n 3, 1) := by decide +kernel
theorem dX4_line_38 : decode cX4_line 38 = .ok (.invokevirtual 78, 3) := by decide +kernel
theorem dX4_line_41 : decode cX4_line 41 = .ok (.goto 11, 3) := by decide +kernel
theorem dX4_line_44 : decode cX4_line 44 = .ok (.aload_n 0, 1) := by decide +kernel
theorem dX4_line_45 : decode cX4_line 45 = .ok (.iload_n 2, 1) := by decide +kernel
theorem dX4_line_46 : decode cX4_line 46 = .ok (.iload 5, 2) := by decide +kernel
theorem dX4_line_48 : decode cX4_line 48 = .ok (.iload_n 3, 1) := by decide +kernel
theorem dX4_line_49 : decode cX4_line 49 = .ok (.invokevirtual 78, 3) := by decide +kernel
theorem dX4_line_52 : decode cX4_line 52 = .ok (.istore 6, 2) := by decide +kernel
theorem dX4_line_54 : decode cX4_line 54 = .ok (.iload 4, 2) := by decide +kernel
theorem dX4_line_56 : decode cX4_line 56 = .ok (.iload 6, 2) := by decide +kernel
theorem dX4_line_58 : decode cX4_line 58 = .ok (.aload_n 0, 1) := by decide +kernel
theorem dX4_line_59 : decode cX4_line 59 = .ok (.getfield 27, 3) := by decide +kernel
theorem dX4_line_62 : decode cX4_line 62 = .ok (.getfield 55, 3) := by decide +kernel
theorem dX4_line_65 : decode cX4_line 65 = .ok (.iload 5, 2) := by decide +kernel
theorem dX4_line_67 : decode cX4_line 67 = .ok (.iaload, 1) := by decide +kernel
theorem dX4_line_68 : decode cX4_line 68 = .ok (.imul, 1) := by decide +kernel
theorem dX4_line_69 : decode cX4_line 69 = .ok (.iadd, 1) := by decide +kernel
theorem dX4_line_70 : decode cX4_line 70 = .ok (.istore 4, 2) := by decide +kernel
theorem dX4_line_72 : decode cX4_line 72 = .ok (.iinc 5 1, 3) := by decide +kernel
theorem dX4_line_75 : decode cX4_line 75 = .ok (.goto (-57), 3) := by decide +kernel
theorem dX4_line_78 : decode cX4_line 78 = .ok (.iload 4, 2) := by decide +kernel
theorem dX4_line_80 : decode cX4_line 80 = .ok (.ireturn, 1) := by decide +kernel
theorem dX4_rowOf_0 : decode cX4_rowOf 0 = .ok (.aload_n 0, 1) := by decide +kernel
theorem dX4_rowOf_1 : decode cX4_rowOf 1 = .ok (.getfield 18, 3) := by decide +kernel
theorem dX4_rowOf_4 : decode cX4_rowOf 4 = .ok (.bipush 40, 2) := by decide +kernel
theorem dX4_rowOf_6 : decode cX4_rowOf 6 = .ok (.iload_n 1, 1) := by decide +kernel
theorem dX4_rowOf_7 : decode cX4_rowOf 7 = .ok (.imul, 1) := by decide +kernel
theorem dX4_rowOf_8 : decode cX4_rowOf 8 = .ok (.iload_n 2, 1) := by decide +kernel
theorem dX4_rowOf_9 : decode cX4_rowOf 9 = .ok (.iadd, 1) := by decide +kernel
theorem dX4_rowOf_10 : decode cX4_rowOf 10 = .ok (.iaload, 1) := by decide +kernel
theorem dX4_rowOf_11 : decode cX4_rowOf 11 = .ok (.ireturn, 1) := by decide +kernel
theorem dX4_put_0 : decode cX4_put 0 = .ok (.bipush 40, 2) := by decide +kernel
theorem dX4_put_2 : decode cX4_put 2 = .ok (.iload_n 1, 1) := by decide +kernel
theorem dX4_put_3 : decode cX4_put 3 = .ok (.imul, 1) := by decide +kernel
theorem dX4_put_4 : decode cX4_put 4 = .ok (.iload_n 2, 1) := by decide +kernel
theorem dX4_put_5 : decode cX4_put 5 = .ok (.iadd, 1) := by decide +kernel
theorem dX4_put_6 : decode cX4_put 6 = .ok (.istore 4, 2) := by decide +kernel
theorem dX4_put_8 : decode cX4_put 8 = .ok (.aload_n 0, 1) := by decide +kernel
theorem dX4_put_9 : decode cX4_put 9 = .ok (.iload_n 1, 1) := by decide +kernel
theorem dX4_put_10 : decode cX4_put 10 = .ok (.iload_n 2, 1) := by decide +kernel
theorem dX4_put_11 : decode cX4_put 11 = .ok (.iconst (-1), 1) := by decide +kernel
theorem dX4_put_12 : decode cX4_put 12 = .ok (.invokevirtual 80, 3) := by decide +kernel
theorem dX4_put_15 : decode cX4_put 15 = .ok (.aload_n 0, 1) := by decide +kernel
theorem dX4_put_16 : decode cX4_put 16 = .ok (.getfield 18, 3) := by decide +kernel
theorem dX4_put_19 : decode cX4_put 19 = .ok (.iload 4, 2) := by decide +kernel
theorem dX4_put_21 : decode cX4_put 21 = .ok (.iload_n 3, 1) := by decide +kernel
theorem dX4_put_22 : decode cX4_put 22 = .ok (.iastore, 1) := by decide +kernel
theorem dX4_put_23 : decode cX4_put 23 = .ok (.aload_n 0, 1) := by decide +kernel
theorem dX4_put_24 : decode cX4_put 24 = .ok (.getfield 21, 3) := by decide +kernel
theorem dX4_put_27 : decode cX4_put 27 = .ok (.iload 4, 2) := by decide +kernel
theorem dX4_put_29 : decode cX4_put 29 = .ok (.aload_n 0, 1) := by decide +kernel
theorem dX4_put_30 : decode cX4_put 30 = .ok (.getfield 27, 3) := by decide +kernel
theorem dX4_put_33 : decode cX4_put 33 = .ok (.iload_n 3, 1) := by decide +kernel
theorem dX4_put_34 : decode cX4_put 34 = .ok (.invokevirtual 83, 3) := by decide +kernel
theorem dX4_put_37 : decode cX4_put 37 = .ok (.iastore, 1) := by decide +kernel
theorem dX4_put_38 : decode cX4_put 38 = .ok (.aload_n 0, 1) := by decide +kernel
theorem dX4_put_39 : decode cX4_put 39 = .ok (.iload_n 1, 1) := by decide +kernel
theorem dX4_put_40 : decode cX4_put 40 = .ok (.iload_n 2, 1) := by decide +kernel
theorem dX4_put_41 : decode cX4_put 41 = .ok (.iconst 1, 1) := by decide +kernel
theorem dX4_put_42 : decode cX4_put 42 = .ok (.invokevirtual 80, 3) := by decide +kernel
theorem dX4_put_45 : decode cX4_put 45 = .ok (.return_, 1) := by decide +kernel
theorem dX4_countMates_0 : decode cX4_countMates 0 = .ok (.bipush 40, 2) := by decide +kernel
theorem dX4_countMates_2 : decode cX4_countMates 2 = .ok (.iload_n 1, 1) := by decide +kernel
theorem dX4_countMates_3 : decode cX4_countMates 3 = .ok (.imul, 1) := by decide +kernel
theorem dX4_countMates_4 : decode cX4_countMates 4 = .ok (.istore 4, 2) := by decide +kernel
theorem dX4_countMates_6 : decode cX4_countMates 6 = .ok (.aload_n 0, 1) := by decide +kernel
theorem dX4_countMates_7 : decode cX4_countMates 7 = .ok (.getfield 21, 3) := by decide +kernel
theorem dX4_countMates_10 : decode cX4_countMates 10 = .ok (.iload 4, 2) := by decide +kernel
theorem dX4_countMates_12 : decode cX4_countMates 12 = .ok (.iload_n 2, 1) := by decide +kernel
theorem dX4_countMates_13 : decode cX4_countMates 13 = .ok (.iadd, 1) := by decide +kernel
theorem dX4_countMates_14 : decode cX4_countMates 14 = .ok (.iaload, 1) := by decide +kernel
theorem dX4_countMates_15 : decode cX4_countMates 15 = .ok (.istore 5, 2) := by decide +kernel
theorem dX4_countMates_17 : decode cX4_countMates 17 = .ok (.iload 5, 2) := by decide +kernel
theorem dX4_countMates_19 : decode cX4_countMates 19 = .ok (.ifCond .ne 4, 3) := by decide +kernel
theorem dX4_countMates_22 : decode cX4_countMates 22 = .ok (.return_, 1) := by decide +kernel
theorem dX4_countMates_23 : decode cX4_countMates 23 = .ok (.iload 4, 2) := by decide +kernel
theorem dX4_countMates_25 : decode cX4_countMates 25 = .ok (.istore 6, 2) := by decide +kernel
theorem dX4_countMates_27 : decode cX4_countMates 27 = .ok (.iload 6, 2) := by decide +kernel
theorem dX4_countMates_29 : decode cX4_countMates 29 = .ok (.iload 4, 2) := by decide +kernel
theorem dX4_countMates_31 : decode cX4_countMates 31 = .ok (.aload_n 0, 1) := by decide +kernel
theorem dX4_countMates_32 : decode cX4_countMates 32 = .ok (.getfield 41, 3) := by decide +kernel
theorem dX4_countMates_35 : decode cX4_countMates 35 = .ok (.iadd, 1) := by decide +kernel
theorem dX4_countMates_36 : decode cX4_countMates 36 = .ok (.if_icmp .ge 54, 3) := by decide +kernel
theorem dX4_countMates_39 : decode cX4_countMates 39 = .ok (.aload_n 0, 1) := by decide +kernel
theorem dX4_countMates_40 : decode cX4_countMates 40 = .ok (.getfield 21, 3) := by decide +kernel
theorem dX4_countMates_43 : decode cX4_countMates 43 = .ok (.iload 6, 2) := by decide +kernel
theorem dX4_countMates_45 : decode cX4_countMates 45 = .ok (.iaload, 1) := by decide +kernel
theorem dX4_countMates_46 : decode cX4_countMates 46 = .ok (.iload 5, 2) := by decide +kernel
theorem dX4_countMates_48 : decode cX4_countMates 48 = .ok (.if_icmp .ne 36, 3) := by decide +kernel
theorem dX4_countMates_51 : decode cX4_countMates 51 = .ok (.iload 6, 2) := by decide +kernel
theorem dX4_countMates_53 : decode cX4_countMates 53 = .ok (.iload 4, 2) := by decide +kernel
theorem dX4_countMates_55 : decode cX4_countMates 55 = .ok (.iload_n 2, 1) := by decide +kernel
theorem dX4_countMates_56 : decode cX4_countMates 56 = .ok (.iadd, 1) := by decide +kernel
theorem dX4_countMates_57 : decode cX4_countMates 57 = .ok (.if_icmp .eq 27, 3) := by decide +kernel
theorem dX4_countMates_60 : decode cX4_countMates 60 = .ok (.aload_n 0, 1) := by decide +kernel
theorem dX4_countMates_61 : decode cX4_countMates 61 = .ok (.getfield 24, 3) := by decide +kernel
theorem dX4_countMates_64 : decode cX4_countMates 64 = .ok (.iload 6, 2) := by decide +kernel
theorem dX4_countMates_66 : decode cX4_countMates 66 = .ok (.dup2, 1) := by decide +kernel
theorem dX4_countMates_67 : decode cX4_countMates 67 = .ok (.iaload, 1) := by decide +kernel
theorem dX4_countMates_68 : decode cX4_countMates 68 = .ok (.iload_n 3, 1) := by decide +kernel
theorem dX4_countMates_69 : decode cX4_countMates 69 = .ok (.iadd, 1) := by decide +kernel
theorem dX4_countMates_70 : decode cX4_countMates 70 = .ok (.iastore, 1) := by decide +kernel
theorem dX4_countMates_71 : decode cX4_countMates 71 = .ok (.aload_n 0, 1) := by decide +kernel
theorem dX4_countMates_72 : decode cX4_countMates 72 = .ok (.getfield 24, 3) := by decide +kernel
theorem dX4_countMates_75 : decode cX4_countMates 75 = .ok (.iload 4, 2) := by decide +kernel
theorem dX4_countMates_77 : decode cX4_countMates 77 = .ok (.iload_n 2, 1) := by decide +kernel
theorem dX4_countMates_78 : decode cX4_countMates 78 = .ok (.iadd, 1) := by decide +kernel
theorem dX4_countMates_79 : decode cX4_countMates 79 = .ok (.dup2, 1) := by decide +kernel
theorem dX4_countMates_80 : decode cX4_countMates 80 = .ok (.iaload, 1) := by decide +kernel
theorem dX4_countMates_81 : decode cX4_countMates 81 = .ok (.iload_n 3, 1) := by decide +kernel
theorem dX4_countMates_82 : decode cX4_countMates 82 = .ok (.iadd, 1) := by decide +kernel
theorem dX4_countMates_83 : decode cX4_countMates 83 = .ok (.iastore, 1) := by decide +kernel
theorem dX4_countMates_84 : decode cX4_countMates 84 = .ok (.iinc 6 1, 3) := by decide +kernel
theorem dX4_countMates_87 : decode cX4_countMates 87 = .ok (.goto (-60), 3) := by decide +kernel
theorem dX4_countMates_90 : decode cX4_countMates 90 = .ok (.return_, 1) := by decide +kernel
theorem dX4_append_0 : decode cX4_append 0 = .ok (.iconst 0, 1) := by decide +kernel
theorem dX4_append_1 : decode cX4_append 1 = .ok (.istore 4, 2) := by decide +kernel
theorem dX4_append_3 : decode cX4_append 3 = .ok (.iload 4, 2) := by decide +kernel
theorem dX4_append_5 : decode cX4_append 5 = .ok (.iconst 3, 1) := by decide +kernel
theorem dX4_append_6 : decode cX4_append 6 = .ok (.if_icmp .ge 41, 3) := by decide +kernel
theorem dX4_append_9 : decode cX4_append 9 = .ok (.aload_n 0, 1) := by decide +kernel
theorem dX4_append_10 : decode cX4_append 10 = .ok (.getfield 21, 3) := by decide +kernel
theorem dX4_append_13 : decode cX4_append 13 = .ok (.bipush 40, 2) := by decide +kernel
theorem dX4_append_15 : decode cX4_append 15 = .ok (.iload 4, 2) := by decide +kernel
theorem dX4_append_17 : decode cX4_append 17 = .ok (.imul, 1) := by decide +kernel
theorem dX4_append_18 : decode cX4_append 18 = .ok (.aload_n 0, 1) := by decide +kernel
theorem dX4_append_19 : decode cX4_append 19 = .ok (.getfield 41, 3) := by decide +kernel
theorem dX4_append_22 : decode cX4_append 22 = .ok (.iadd, 1) := by decide +kernel
theorem dX4_append_23 : decode cX4_append 23 = .ok (.iconst 0, 1) := by decide +kernel
theorem dX4_append_24 : decode cX4_append 24 = .ok (.iastore, 1) := by decide +kernel
theorem dX4_append_25 : decode cX4_append 25 = .ok (.aload_n 0, 1) := by decide +kernel
theorem dX4_append_26 : decode cX4_append 26 = .ok (.getfield 24, 3) := by decide +kernel
theorem dX4_append_29 : decode cX4_append 29 = .ok (.bipush 40, 2) := by decide +kernel
theorem dX4_append_31 : decode cX4_append 31 = .ok (.iload 4, 2) := by decide +kernel
theorem dX4_append_33 : decode cX4_append 33 = .ok (.imul, 1) := by decide +kernel
theorem dX4_append_34 : decode cX4_append 34 = .ok (.aload_n 0, 1) := by decide +kernel
theorem dX4_append_35 : decode cX4_append 35 = .ok (.getfield 41, 3) := by decide +kernel
theorem dX4_append_38 : decode cX4_append 38 = .ok (.iadd, 1) := by decide +kernel
theorem dX4_append_39 : decode cX4_append 39 = .ok (.iconst 0, 1) := by decide +kernel
theorem dX4_append_40 : decode cX4_append 40 = .ok (.iastore, 1) := by decide +kernel
theorem dX4_append_41 : decode cX4_append 41 = .ok (.iinc 4 1, 3) := by decide +kernel
theorem dX4_append_44 : decode cX4_append 44 = .ok (.goto (-41), 3) := by decide +kernel
theorem dX4_append_47 : decode cX4_append 47 = .ok (.aload_n 0, 1) := by decide +kernel
theorem dX4_append_48 : decode cX4_append 48 = .ok (.dup, 1) := by decide +kernel
theorem dX4_append_49 : decode cX4_append 49 = .ok (.getfield 41, 3) := by decide +kernel
theorem dX4_append_52 : decode cX4_append 52 = .ok (.iconst 1, 1) := by decide +kernel
theorem dX4_append_53 : decode cX4_append 53 = .ok (.iadd, 1) := by decide +kernel
theorem dX4_append_54 : decode cX4_append 54 = .ok (.putfield 41, 3) := by decide +kernel
theorem dX4_append_57 : decode cX4_append 57 = .ok (.aload_n 0, 1) := by decide +kernel
theorem dX4_append_58 : decode cX4_append 58 = .ok (.iconst 0, 1) := by decide +kernel
theorem dX4_append_59 : decode cX4_append 59 = .ok (.aload_n 0, 1) := by decide +kernel
theorem dX4_append_60 : decode cX4_append 60 = .ok (.getfield 41, 3) := by decide +kernel
theorem dX4_append_63 : decode cX4_append 63 = .ok (.iconst 1, 1) := by decide +kernel
theorem dX4_append_64 : decode cX4_append 64 = .ok (.isub, 1) := by decide +kernel
theorem dX4_append_65 : decode cX4_append 65 = .ok (.iload_n 1, 1) := by decide +kernel
theorem dX4_append_66 : decode cX4_append 66 = .ok (.invokevirtual 85, 3) := by decide +kernel
theorem dX4_append_69 : decode cX4_append 69 = .ok (.aload_n 0, 1) := by decide +kernel
theorem dX4_append_70 : decode cX4_append 70 = .ok (.iconst 1, 1) := by decide +kernel
theorem dX4_append_71 : decode cX4_append 71 = .ok (.aload_n 0, 1) := by decide +kernel
theorem dX4_append_72 : decode cX4_append 72 = .ok (.getfield 41, 3) := by decide +kernel
theorem dX4_append_75 : decode cX4_append 75 = .ok (.iconst 1, 1) := by decide +kernel
theorem dX4_append_76 : decode cX4_append 76 = .ok (.isub, 1) := by decide +kernel
theorem dX4_append_77 : decode cX4_append 77 = .ok (.iload_n 2, 1) := by decide +kernel
theorem dX4_append_78 : decode cX4_append 78 = .ok (.invokevirtual 85, 3) := by decide +kernel
theorem dX4_append_81 : decode cX4_append 81 = .ok (.aload_n 0, 1) := by decide +kernel
theorem dX4_append_82 : decode cX4_append 82 = .ok (.iconst 2, 1) := by decide +kernel
theorem dX4_append_83 : decode cX4_append 83 = .ok (.aload_n 0, 1) := by decide +kernel
theorem dX4_append_84 : decode cX4_append 84 = .ok (.getfield 41, 3) := by decide +kernel
theorem dX4_append_87 : decode cX4_append 87 = .ok (.iconst 1, 1) := by decide +kernel
theorem dX4_append_88 : decode cX4_append 88 = .ok (.isub, 1) := by decide +kernel
theorem dX4_append_89 : decode cX4_append 89 = .ok (.iload_n 3, 1) := by decide +kernel
theorem dX4_append_90 : decode cX4_append 90 = .ok (.invokevirtual 85, 3) := by decide +kernel
theorem dX4_append_93 : decode cX4_append 93 = .ok (.return_, 1) := by decide +kernel
theorem dX4_remove_0 : decode cX4_remove 0 = .ok (.aload_n 0, 1) := by decide +kernel
theorem dX4_remove_1 : decode cX4_remove 1 = .ok (.getfield 41, 3) := by decide +kernel
theorem dX4_remove_4 : decode cX4_remove 4 = .ok (.iload_n 1, 1) := by decide +kernel
theorem dX4_remove_5 : decode cX4_remove 5 = .ok (.isub, 1) := by decide +kernel
theorem dX4_remove_6 : decode cX4_remove 6 = .ok (.iconst 1, 1) := by decide +kernel
theorem dX4_remove_7 : decode cX4_remove 7 = .ok (.isub, 1) := by decide +kernel
theorem dX4_remove_8 : decode cX4_remove 8 = .ok (.istore_n 2, 1) := by decide +kernel
theorem dX4_remove_9 : decode cX4_remove 9 = .ok (.iconst 0, 1) := by decide +kernel
theorem dX4_remove_10 : decode cX4_remove 10 = .ok (.istore_n 3, 1) := by decide +kernel
theorem dX4_remove_11 : decode cX4_remove 11 = .ok (.iload_n 3, 1) := by decide +kernel
theorem dX4_remove_12 : decode cX4_remove 12 = .ok (.iconst 3, 1) := by decide +kernel
theorem dX4_remove_13 : decode cX4_remove 13 = .ok (.if_icmp .ge 78, 3) := by decide +kernel
theorem dX4_remove_16 : decode cX4_remove 16 = .ok (.bipush 40, 2) := by decide +kernel
theorem dX4_remove_18 : decode cX4_remove 18 = .ok (.iload_n 3, 1) := by decide +kernel
theorem dX4_remove_19 : decode cX4_remove 19 = .ok (.imul, 1) := by decide +kernel
theorem dX4_remove_20 : decode cX4_remove 20 = .ok (.iload_n 1, 1) := by decide +kernel
theorem dX4_remove_21 : decode cX4_remove 21 = .ok (.iadd, 1) := by decide +kernel
theorem dX4_remove_22 : decode cX4_remove 22 = .ok (.istore 4, 2) := by decide +kernel
theorem dX4_remove_24 : decode cX4_remove 24 = .ok (.aload_n 0, 1) := by decide +kernel
theorem dX4_remove_25 : decode cX4_remove 25 = .ok (.iload_n 3, 1) := by decide +kernel
theorem dX4_remove_26 : decode cX4_remove 26 = .ok (.iload_n 1, 1) := by decide +kernel
theorem dX4_remove_27 : decode cX4_remove 27 = .ok (.iconst (-1), 1) := by decide +kernel
theorem dX4_remove_28 : decode cX4_remove 28 = .ok (.invokevirtual 80, 3) := by decide +kernel
theorem dX4_remove_31 : decode cX4_remove 31 = .ok (.aload_n 0, 1) := by decide +kernel
theorem dX4_remove_32 : decode cX4_remove 32 = .ok (.getfield 18, 3) := by decide +kernel
theorem dX4_remove_35 : decode cX4_remove 35 = .ok (.iload 4, 2) := by decide +kernel
theorem dX4_remove_37 : decode cX4_remove 37 = .ok (.iconst 1, 1) := by decide +kernel
theorem dX4_remove_38 : decode cX4_remove 38 = .ok (.iadd, 1) := by decide +kernel
theorem dX4_remove_39 : decode cX4_remove 39 = .ok (.aload_n 0, 1) := by decide +kernel
theorem dX4_remove_40 : decode cX4_remove 40 = .ok (.getfield 18, 3) := by decide +kernel
theorem dX4_remove_43 : decode cX4_remove 43 = .ok (.iload 4, 2) := by decide +kernel
theorem dX4_remove_45 : decode cX4_remove 45 = .ok (.iload_n 2, 1) := by decide +kernel
theorem dX4_remove_46 : decode cX4_remove 46 = .ok (.invokestatic 45, 3) := by decide +kernel
theorem dX4_remove_49 : decode cX4_remove 49 = .ok (.aload_n 0, 1) := by decide +kernel
theorem dX4_remove_50 : decode cX4_remove 50 = .ok (.getfield 21, 3) := by decide +kernel
theorem dX4_remove_53 : decode cX4_remove 53 = .ok (.iload 4, 2) := by decide +kernel
theorem dX4_remove_55 : decode cX4_remove 55 = .ok (.iconst 1, 1) := by decide +kernel
theorem dX4_remove_56 : decode cX4_remove 56 = .ok (.iadd, 1) := by decide +kernel
theorem dX4_remove_57 : decode cX4_remove 57 = .ok (.aload_n 0, 1) := by decide +kernel
theorem dX4_remove_58 : decode cX4_remove 58 = .ok (.getfield 21, 3) := by decide +kernel
theorem dX4_remove_61 : decode cX4_remove 61 = .ok (.iload 4, 2) := by decide +kernel
theorem dX4_remove_63 : decode cX4_remove 63 = .ok (.iload_n 2, 1) := by decide +kernel
theorem dX4_remove_64 : decode cX4_remove 64 = .ok (.invokestatic 45, 3) := by decide +kernel
theorem dX4_remove_67 : decode cX4_remove 67 = .ok (.aload_n 0, 1) := by decide +kernel
theorem dX4_remove_68 : decode cX4_remove 68 = .ok (.getfield 24, 3) := by decide +kernel
theorem dX4_remove_71 : decode cX4_remove 71 = .ok (.iload 4, 2) := by decide +kernel
theorem dX4_remove_73 : decode cX4_remove 73 = .ok (.iconst 1, 1) := by decide +kernel
theorem dX4_remove_74 : decode cX4_remove 74 = .ok (.iadd, 1) := by decide +kernel
theorem dX4_remove_75 : decode cX4_remove 75 = .ok (.aload_n 0, 1) := by decide +kernel
theorem dX4_remove_76 : decode cX4_remove 76 = .ok (.getfield 24, 3) := by decide +kernel
theorem dX4_remove_79 : decode cX4_remove 79 = .ok (.iload 4, 2) := by decide +kernel
theorem dX4_remove_81 : decode cX4_remove 81 = .ok (.iload_n 2, 1) := by decide +kernel
theorem dX4_remove_82 : decode cX4_remove 82 = .ok (.invokestatic 45, 3) := by decide +kernel
theorem dX4_remove_85 : decode cX4_remove 85 = .ok (.iinc 3 1, 3) := by decide +kernel
theorem dX4_remove_88 : decode cX4_remove 88 = .ok (.goto (-77), 3) := by decide +kernel
theorem dX4_remove_91 : decode cX4_remove 91 = .ok (.aload_n 0, 1) := by decide +kernel
theorem dX4_remove_92 : decode cX4_remove 92 = .ok (.dup, 1) := by decide +kernel
theorem dX4_remove_93 : decode cX4_remove 93 = .ok (.getfield 41, 3) := by decide +kernel
theorem dX4_remove_96 : decode cX4_remove 96 = .ok (.iconst 1, 1) := by decide +kernel
theorem dX4_remove_97 : decode cX4_remove 97 = .ok (.isub, 1) := by decide +kernel
theorem dX4_remove_98 : decode cX4_remove 98 = .ok (.putfield 41, 3) := by decide +kernel
theorem dX4_remove_101 : decode cX4_remove 101 = .ok (.return_, 1) := by decide +kernel
theorem dX4_becomePlain_0 : decode cX4_becomePlain 0 = .ok (.aload_n 0, 1) := by decide +kernel
theorem dX4_becomePlain_1 : decode cX4_becomePlain 1 = .ok (.iconst 0, 1) := by decide +kernel
theorem dX4_becomePlain_2 : decode cX4_becomePlain 2 = .ok (.putfield 41, 3) := by decide +kernel
theorem dX4_becomePlain_5 : decode cX4_becomePlain 5 = .ok (.iconst 0, 1) := by decide +kernel
theorem dX4_becomePlain_6 : decode cX4_becomePlain 6 = .ok (.istore_n 1, 1) := by decide +kernel
theorem dX4_becomePlain_7 : decode cX4_becomePlain 7 = .ok (.iload_n 1, 1) := by decide +kernel
theorem dX4_becomePlain_8 : decode cX4_becomePlain 8 = .ok (.aload_n 0, 1) := by decide +kernel
theorem dX4_becomePlain_9 : decode cX4_becomePlain 9 = .ok (.getfield 9, 3) := by decide +kernel
theorem dX4_becomePlain_12 : decode cX4_becomePlain 12 = .ok (.iconst 0, 1) := by decide +kernel
theorem dX4_becomePlain_13 : decode cX4_becomePlain 13 = .ok (.iaload, 1) := by decide +kernel
theorem dX4_becomePlain_14 : decode cX4_becomePlain 14 = .ok (.if_icmp .ge 33, 3) := by decide +kernel
theorem dX4_becomePlain_17 : decode cX4_becomePlain 17 = .ok (.iconst 0, 1) := by decide +kernel
theorem dX4_becomePlain_18 : decode cX4_becomePlain 18 = .ok (.istore_n 2, 1) := by decide +kernel
theorem dX4_becomePlain_19 : decode cX4_becomePlain 19 = .ok (.iload_n 2, 1) := by decide +kernel
theorem dX4_becomePlain_20 : decode cX4_becomePlain 20 = .ok (.aload_n 0, 1) := by decide +kernel
theorem dX4_becomePlain_21 : decode cX4_becomePlain 21 = .ok (.getfield 9, 3) := by decide +kernel
theorem dX4_becomePlain_24 : decode cX4_becomePlain 24 = .ok (.iconst 1, 1) := by decide +kernel
theorem dX4_becomePlain_25 : decode cX4_becomePlain 25 = .ok (.iaload, 1) := by decide +kernel
theorem dX4_becomePlain_26 : decode cX4_becomePlain 26 = .ok (.if_icmp .ge 15, 3) := by decide +kernel
theorem dX4_becomePlain_29 : decode cX4_becomePlain 29 = .ok (.aload_n 0, 1) := by decide +kernel
theorem dX4_becomePlain_30 : decode cX4_becomePlain 30 = .ok (.iload_n 1, 1) := by decide +kernel
theorem dX4_becomePlain_31 : decode cX4_becomePlain 31 = .ok (.iload_n 2, 1) := by decide +kernel
theorem dX4_becomePlain_32 : decode cX4_becomePlain 32 = .ok (.invokevirtual 88, 3) := by decide +kernel
theorem dX4_becomePlain_35 : decode cX4_becomePlain 35 = .ok (.iinc 2 1, 3) := by decide +kernel
theorem dX4_becomePlain_38 : decode cX4_becomePlain 38 = .ok (.goto (-19), 3) := by decide +kernel
theorem dX4_becomePlain_41 : decode cX4_becomePlain 41 = .ok (.iinc 1 1, 3) := by decide +kernel
theorem dX4_becomePlain_44 : decode cX4_becomePlain 44 = .ok (.goto (-37), 3) := by decide +kernel
theorem dX4_becomePlain_47 : decode cX4_becomePlain 47 = .ok (.return_, 1) := by decide +kernel
theorem dX4_appendPlain_0 : decode cX4_appendPlain 0 = .ok (.iconst 0, 1) := by decide +kernel
theorem dX4_appendPlain_1 : decode cX4_appendPlain 1 = .ok (.istore_n 3, 1) := by decide +kernel
theorem dX4_appendPlain_2 : decode cX4_appendPlain 2 = .ok (.iload_n 3, 1) := by decide +kernel
theorem dX4_appendPlain_3 : decode cX4_appendPlain 3 = .ok (.aload_n 0, 1) := by decide +kernel
theorem dX4_appendPlain_4 : decode cX4_appendPlain 4 = .ok (.getfield 9, 3) := by decide +kernel
theorem dX4_appendPlain_7 : decode cX4_appendPlain 7 = .ok (.iconst 2, 1) := by decide +kernel
theorem dX4_appendPlain_8 : decode cX4_appendPlain 8 = .ok (.iaload, 1) := by decide +kernel
theorem dX4_appendPlain_9 : decode cX4_appendPlain 9 = .ok (.if_icmp .ge 66, 3) := by decide +kernel
theorem dX4_appendPlain_12 : decode cX4_appendPlain 12 = .ok (.aload_n 0, 1) := by decide +kernel
theorem dX4_appendPlain_13 : decode cX4_appendPlain 13 = .ok (.iload_n 1, 1) := by decide +kernel
theorem dX4_appendPlain_14 : decode cX4_appendPlain 14 = .ok (.iload_n 2, 1) := by decide +kernel
theorem dX4_appendPlain_15 : decode cX4_appendPlain 15 = .ok (.iload_n 3, 1) := by decide +kernel
theorem dX4_appendPlain_16 : decode cX4_appendPlain 16 = .ok (.invokevirtual 78, 3) := by decide +kernel
theorem dX4_appendPlain_19 : decode cX4_appendPlain 19 = .ok (.istore 4, 2) := by decide +kernel
theorem dX4_appendPlain_21 : decode cX4_appendPlain 21 = .ok (.iload 4, 2) := by decide +kernel
theorem dX4_appendPlain_23 : decode cX4_appendPlain 23 = .ok (.ifCond .eq 46, 3) := by decide +kernel
theorem dX4_appendPlain_26 : decode cX4_appendPlain 26 = .ok (.aload_n 0, 1) := by decide +kernel
theorem dX4_appendPlain_27 : decode cX4_appendPlain 27 = .ok (.getfield 41, 3) := by decide +kernel
theorem dX4_appendPlain_30 : decode cX4_appendPlain 30 = .ok (.bipush 40, 2) := by decide +kernel
theorem dX4_appendPlain_32 : decode cX4_appendPlain 32 = .ok (.if_icmp .ge 37, 3) := by decide +kernel
theorem dX4_appendPlain_35 : decode cX4_appendPlain 35 = .ok (.aload_n 0, 1) := by decide +kernel
theorem dX4_appendPlain_36 : decode cX4_appendPlain 36 = .ok (.aload_n 0, 1) := by decide +kernel
theorem dX4_appendPlain_37 : decode cX4_appendPlain 37 = .ok (.getfield 27, 3) := by decide +kernel
theorem dX4_appendPlain_40 : decode cX4_appendPlain 40 = .ok (.getfield 55, 3) := by decide +kernel
theorem dX4_appendPlain_43 : decode cX4_appendPlain 43 = .ok (.iload_n 1, 1) := by decide +kernel
theorem dX4_appendPlain_44 : decode cX4_appendPlain 44 = .ok (.iaload, 1) := by decide +kernel
theorem dX4_appendPlain_45 : decode cX4_appendPlain 45 = .ok (.aload_n 0, 1) := by decide +kernel
theorem dX4_appendPlain_46 : decode cX4_appendPlain 46 = .ok (.getfield 27, 3) := by decide +kernel
theorem dX4_appendPlain_49 : decode cX4_appendPlain 49 = .ok (.getfield 55, 3) := by decide +kernel
theorem dX4_appendPlain_52 : decode cX4_appendPlain 52 = .ok (.iload_n 2, 1) := by decide +kernel
theorem dX4_appendPlain_53 : decode cX4_appendPlain 53 = .ok (.iaload, 1) := by decide +kernel
theorem dX4_appendPlain_54 : decode cX4_appendPlain 54 = .ok (.iload 4, 2) := by decide +kernel
theorem dX4_appendPlain_56 : decode cX4_appendPlain 56 = .ok (.aload_n 0, 1) := by decide +kernel
theorem dX4_appendPlain_57 : decode cX4_appendPlain 57 = .ok (.getfield 27, 3) := by decide +kernel
theorem dX4_appendPlain_60 : decode cX4_appendPlain 60 = .ok (.getfield 55, 3) := by decide +kernel
theorem dX4_appendPlain_63 : decode cX4_appendPlain 63 = .ok (.iload_n 3, 1) := by decide +kernel
theorem dX4_appendPlain_64 : decode cX4_appendPlain 64 = .ok (.iaload, 1) := by decide +kernel
theorem dX4_appendPlain_65 : decode cX4_appendPlain 65 = .ok (.imul, 1) := by decide +kernel
theorem dX4_appendPlain_66 : decode cX4_appendPlain 66 = .ok (.invokevirtual 92, 3) := by decide +kernel
theorem dX4_appendPlain_69 : decode cX4_appendPlain 69 = .ok (.iinc 3 1, 3) := by decide +kernel
theorem dX4_appendPlain_72 : decode cX4_appendPlain 72 = .ok (.goto (-70), 3) := by decide +kernel
theorem dX4_appendPlain_75 : decode cX4_appendPlain 75 = .ok (.return_, 1) := by decide +kernel
theorem dX4_matesOf_0 : decode cX4_matesOf 0 = .ok (.aload_n 0, 1) := by decide +kernel
theorem dX4_matesOf_1 : decode cX4_matesOf 1 = .ok (.getfield 24, 3) := by decide +kernel
theorem dX4_matesOf_4 : decode cX4_matesOf 4 = .ok (.bipush 40, 2) := by decide +kernel
theorem dX4_matesOf_6 : decode cX4_matesOf 6 = .ok (.iload_n 1, 1) := by decide +kernel
theorem dX4_matesOf_7 : decode cX4_matesOf 7 = .ok (.imul, 1) := by decide +kernel
theorem dX4_matesOf_8 : decode cX4_matesOf 8 = .ok (.iload_n 2, 1) := by decide +kernel
theorem dX4_matesOf_9 : decode cX4_matesOf 9 = .ok (.iadd, 1) := by decide +kernel
theorem dX4_matesOf_10 : decode cX4_matesOf 10 = .ok (.iaload, 1) := by decide +kernel
theorem dX4_matesOf_11 : decode cX4_matesOf 11 = .ok (.ireturn, 1) := by decide +kernel
theorem dX4_alike_0 : decode cX4_alike 0 = .ok (.aload_n 0, 1) := by decide +kernel
theorem dX4_alike_1 : decode cX4_alike 1 = .ok (.getfield 21, 3) := by decide +kernel
theorem dX4_alike_4 : decode cX4_alike 4 = .ok (.bipush 40, 2) := by decide +kernel
theorem dX4_alike_6 : decode cX4_alike 6 = .ok (.iload_n 1, 1) := by decide +kernel
theorem dX4_alike_7 : decode cX4_alike 7 = .ok (.imul, 1) := by decide +kernel
theorem dX4_alike_8 : decode cX4_alike 8 = .ok (.iload_n 2, 1) := by decide +kernel
theorem dX4_alike_9 : decode cX4_alike 9 = .ok (.iadd, 1) := by decide +kernel
theorem dX4_alike_10 : decode cX4_alike 10 = .ok (.iaload, 1) := by decide +kernel
theorem dX4_alike_11 : decode cX4_alike 11 = .ok (.istore 4, 2) := by decide +kernel
theorem dX4_alike_13 : decode cX4_alike 13 = .ok (.iload 4, 2) := by decide +kernel
theorem dX4_alike_15 : decode cX4_alike 15 = .ok (.ifCond .eq 23, 3) := by decide +kernel
theorem dX4_alike_18 : decode cX4_alike 18 = .ok (.iload 4, 2) := by decide +kernel
theorem dX4_alike_20 : decode cX4_alike 20 = .ok (.aload_n 0, 1) := by decide +kernel
theorem dX4_alike_21 : decode cX4_alike 21 = .ok (.getfield 21, 3) := by decide +kernel
theorem dX4_alike_24 : decode cX4_alike 24 = .ok (.bipush 40, 2) := by decide +kernel
theorem dX4_alike_26 : decode cX4_alike 26 = .ok (.iload_n 1, 1) := by decide +kernel
theorem dX4_alike_27 : decode cX4_alike 27 = .ok (.imul, 1) := by decide +kernel
theorem dX4_alike_28 : decode cX4_alike 28 = .ok (.iload_n 3, 1) := by decide +kernel
theorem dX4_alike_29 : decode cX4_alike 29 = .ok (.iadd, 1) := by decide +kernel
theorem dX4_alike_30 : decode cX4_alike 30 = .ok (.iaload, 1) := by decide +kernel
theorem dX4_alike_31 : decode cX4_alike 31 = .ok (.if_icmp .ne 7, 3) := by decide +kernel
theorem dX4_alike_34 : decode cX4_alike 34 = .ok (.iconst 1, 1) := by decide +kernel
theorem dX4_alike_35 : decode cX4_alike 35 = .ok (.goto 4, 3) := by decide +kernel
theorem dX4_alike_38 : decode cX4_alike 38 = .ok (.iconst 0, 1) := by decide +kernel
theorem dX4_alike_39 : decode cX4_alike 39 = .ok (.ireturn, 1) := by decide +kernel
theorem dX4_factor_0 : decode cX4_factor 0 = .ok (.aload_n 0, 1) := by decide +kernel
theorem dX4_factor_1 : decode cX4_factor 1 = .ok (.getfield 27, 3) := by decide +kernel
theorem dX4_factor_4 : decode cX4_factor 4 = .ok (.aload_n 0, 1) := by decide +kernel
theorem dX4_factor_5 : decode cX4_factor 5 = .ok (.iload_n 1, 1) := by decide +kernel
theorem dX4_factor_6 : decode cX4_factor 6 = .ok (.iload_n 2, 1) := by decide +kernel
theorem dX4_factor_7 : decode cX4_factor 7 = .ok (.invokevirtual 95, 3) := by decide +kernel
theorem dX4_factor_10 : decode cX4_factor 10 = .ok (.invokevirtual 98, 3) := by decide +kernel
theorem dX4_factor_13 : decode cX4_factor 13 = .ok (.istore 4, 2) := by decide +kernel
theorem dX4_factor_15 : decode cX4_factor 15 = .ok (.aload_n 0, 1) := by decide +kernel
theorem dX4_factor_16 : decode cX4_factor 16 = .ok (.getfield 27, 3) := by decide +kernel
theorem dX4_factor_19 : decode cX4_factor 19 = .ok (.aload_n 0, 1) := by decide +kernel
theorem dX4_factor_20 : decode cX4_factor 20 = .ok (.iload_n 1, 1) := by decide +kernel
theorem dX4_factor_21 : decode cX4_factor 21 = .ok (.iload_n 3, 1) := by decide +kernel
theorem dX4_factor_22 : decode cX4_factor 22 = .ok (.invokevirtual 95, 3) := by decide +kernel
theorem dX4_factor_25 : decode cX4_factor 25 = .ok (.invokevirtual 98, 3) := by decide +kernel
theorem dX4_factor_28 : decode cX4_factor 28 = .ok (.istore 5, 2) := by decide +kernel
theorem dX4_factor_30 : decode cX4_factor 30 = .ok (.iload 5, 2) := by decide +kernel
theorem dX4_factor_32 : decode cX4_factor 32 = .ok (.aload_n 0, 1) := by decide +kernel
theorem dX4_factor_33 : decode cX4_factor 33 = .ok (.getfield 27, 3) := by decide +kernel
theorem dX4_factor_36 : decode cX4_factor 36 = .ok (.getfield 101, 3) := by decide +kernel
theorem dX4_factor_39 : decode cX4_factor 39 = .ok (.iload 4, 2) := by decide +kernel
theorem dX4_factor_41 : decode cX4_factor 41 = .ok (.iaload, 1) := by decide +kernel
theorem dX4_factor_42 : decode cX4_factor 42 = .ok (.imul, 1) := by decide +kernel
theorem dX4_factor_43 : decode cX4_factor 43 = .ok (.aload_n 0, 1) := by decide +kernel
theorem dX4_factor_44 : decode cX4_factor 44 = .ok (.getfield 27, 3) := by decide +kernel
theorem dX4_factor_47 : decode cX4_factor 47 = .ok (.getfield 104, 3) := by decide +kernel
theorem dX4_factor_50 : decode cX4_factor 50 = .ok (.irem, 1) := by decide +kernel
theorem dX4_factor_51 : decode cX4_factor 51 = .ok (.ireturn, 1) := by decide +kernel
theorem dX4_addIndex_0 : decode cX4_addIndex 0 = .ok (.iload_n 1, 1) := by decide +kernel
theorem dX4_addIndex_1 : decode cX4_addIndex 1 = .ok (.ifCond .ne 7, 3) := by decide +kernel
theorem dX4_addIndex_4 : decode cX4_addIndex 4 = .ok (.iconst 1, 1) := by decide +kernel
theorem dX4_addIndex_5 : decode cX4_addIndex 5 = .ok (.goto 4, 3) := by decide +kernel
theorem dX4_addIndex_8 : decode cX4_addIndex 8 = .ok (.iconst 0, 1) := by decide +kernel
theorem dX4_addIndex_9 : decode cX4_addIndex 9 = .ok (.istore 5, 2) := by decide +kernel
theorem dX4_addIndex_11 : decode cX4_addIndex 11 = .ok (.iconst 0, 1) := by decide +kernel
theorem dX4_addIndex_12 : decode cX4_addIndex 12 = .ok (.istore 6, 2) := by decide +kernel
theorem dX4_addIndex_14 : decode cX4_addIndex 14 = .ok (.iload 6, 2) := by decide +kernel
theorem dX4_addIndex_16 : decode cX4_addIndex 16 = .ok (.aload_n 0, 1) := by decide +kernel
theorem dX4_addIndex_17 : decode cX4_addIndex 17 = .ok (.getfield 9, 3) := by decide +kernel
theorem dX4_addIndex_20 : decode cX4_addIndex 20 = .ok (.iload 5, 2) := by decide +kernel
theorem dX4_addIndex_22 : decode cX4_addIndex 22 = .ok (.iaload, 1) := by decide +kernel
theorem dX4_addIndex_23 : decode cX4_addIndex 23 = .ok (.if_icmp .ge 94, 3) := by decide +kernel
theorem dX4_addIndex_26 : decode cX4_addIndex 26 = .ok (.iload_n 1, 1) := by decide +kernel
theorem dX4_addIndex_27 : decode cX4_addIndex 27 = .ok (.ifCond .ne 36, 3) := by decide +kernel
theorem dX4_addIndex_30 : decode cX4_addIndex 30 = .ok (.aload_n 0, 1) := by decide +kernel
theorem dX4_addIndex_31 : decode cX4_addIndex 31 = .ok (.iload_n 2, 1) := by decide +kernel
theorem dX4_addIndex_32 : decode cX4_addIndex 32 = .ok (.iload 6, 2) := by decide +kernel
theorem dX4_addIndex_34 : decode cX4_addIndex 34 = .ok (.aload_n 0, 1) := by decide +kernel
theorem dX4_addIndex_35 : decode cX4_addIndex 35 = .ok (.getfield 27, 3) := by decide +kernel
theorem dX4_addIndex_38 : decode cX4_addIndex 38 = .ok (.aload_n 0, 1) := by decide +kernel
theorem dX4_addIndex_39 : decode cX4_addIndex 39 = .ok (.iload_n 2, 1) := by decide +kernel
theorem dX4_addIndex_40 : decode cX4_addIndex 40 = .ok (.iload 6, 2) := by decide +kernel
theorem dX4_addIndex_42 : decode cX4_addIndex 42 = .ok (.invokevirtual 60, 3) := by decide +kernel
theorem dX4_addIndex_45 : decode cX4_addIndex 45 = .ok (.iload 4, 2) := by decide +kernel
theorem dX4_addIndex_47 : decode cX4_addIndex 47 = .ok (.aload_n 0, 1) := by decide +kernel
theorem dX4_addIndex_48 : decode cX4_addIndex 48 = .ok (.iload_n 3, 1) := by decide +kernel
theorem dX4_addIndex_49 : decode cX4_addIndex 49 = .ok (.iload 6, 2) := by decide +kernel
theorem dX4_addIndex_51 : decode cX4_addIndex 51 = .ok (.invokevirtual 60, 3) := by decide +kernel
theorem dX4_addIndex_54 : decode cX4_addIndex 54 = .ok (.invokevirtual 107, 3) := by decide +kernel
theorem dX4_addIndex_57 : decode cX4_addIndex 57 = .ok (.invokevirtual 71, 3) := by decide +kernel
theorem dX4_addIndex_60 : decode cX4_addIndex 60 = .ok (.goto 51, 3) := by decide +kernel
theorem dX4_addIndex_63 : decode cX4_addIndex 63 = .ok (.iload_n 1, 1) := by decide +kernel
theorem dX4_addIndex_64 : decode cX4_addIndex 64 = .ok (.iconst 1, 1) := by decide +kernel
theorem dX4_addIndex_65 : decode cX4_addIndex 65 = .ok (.if_icmp .ne 36, 3) := by decide +kernel
theorem dX4_addIndex_68 : decode cX4_addIndex 68 = .ok (.aload_n 0, 1) := by decide +kernel
theorem dX4_addIndex_69 : decode cX4_addIndex 69 = .ok (.iload 6, 2) := by decide +kernel
theorem dX4_addIndex_71 : decode cX4_addIndex 71 = .ok (.iload_n 2, 1) := by decide +kernel
theorem dX4_addIndex_72 : decode cX4_addIndex 72 = .ok (.aload_n 0, 1) := by decide +kernel
theorem dX4_addIndex_73 : decode cX4_addIndex 73 = .ok (.getfield 27, 3) := by decide +kernel
theorem dX4_addIndex_76 : decode cX4_addIndex 76 = .ok (.aload_n 0, 1) := by decide +kernel
theorem dX4_addIndex_77 : decode cX4_addIndex 77 = .ok (.iload 6, 2) := by decide +kernel
theorem dX4_addIndex_79 : decode cX4_addIndex 79 = .ok (.iload_n 2, 1) := by decide +kernel
theorem dX4_addIndex_80 : decode cX4_addIndex 80 = .ok (.invokevirtual 60, 3) := by decide +kernel
theorem dX4_addIndex_83 : decode cX4_addIndex 83 = .ok (.iload 4, 2) := by decide +kernel
theorem dX4_addIndex_85 : decode cX4_addIndex 85 = .ok (.aload_n 0, 1) := by decide +kernel
theorem dX4_addIndex_86 : decode cX4_addIndex 86 = .ok (.iload 6, 2) := by decide +kernel
theorem dX4_addIndex_88 : decode cX4_addIndex 88 = .ok (.iload_n 3, 1) := by decide +kernel
theorem dX4_addIndex_89 : decode cX4_addIndex 89 = .ok (.invokevirtual 60, 3) := by decide +kernel
theorem dX4_addIndex_92 : decode cX4_addIndex 92 = .ok (.invokevirtual 107, 3) := by decide +kernel
theorem dX4_addIndex_95 : decode cX4_addIndex 95 = .ok (.invokevirtual 71, 3) := by decide +kernel
theorem dX4_addIndex_98 : decode cX4_addIndex 98 = .ok (.goto 13, 3) := by decide +kernel
theorem dX4_addIndex_101 : decode cX4_addIndex 101 = .ok (.aload_n 0, 1) := by decide +kernel
theorem dX4_addIndex_102 : decode cX4_addIndex 102 = .ok (.iload 6, 2) := by decide +kernel
theorem dX4_addIndex_104 : decode cX4_addIndex 104 = .ok (.iload_n 2, 1) := by decide +kernel
theorem dX4_addIndex_105 : decode cX4_addIndex 105 = .ok (.iload_n 3, 1) := by decide +kernel
theorem dX4_addIndex_106 : decode cX4_addIndex 106 = .ok (.iload 4, 2) := by decide +kernel
theorem dX4_addIndex_108 : decode cX4_addIndex 108 = .ok (.invokevirtual 110, 3) := by decide +kernel
theorem dX4_addIndex_111 : decode cX4_addIndex 111 = .ok (.iinc 6 1, 3) := by decide +kernel
theorem dX4_addIndex_114 : decode cX4_addIndex 114 = .ok (.goto (-100), 3) := by decide +kernel
theorem dX4_addIndex_117 : decode cX4_addIndex 117 = .ok (.iconst 0, 1) := by decide +kernel
theorem dX4_addIndex_118 : decode cX4_addIndex 118 = .ok (.istore 6, 2) := by decide +kernel
theorem dX4_addIndex_120 : decode cX4_addIndex 120 = .ok (.iload 6, 2) := by decide +kernel
theorem dX4_addIndex_122 : decode cX4_addIndex 122 = .ok (.aload_n 0, 1) := by decide +kernel
theorem dX4_addIndex_123 : decode cX4_addIndex 123 = .ok (.getfield 41, 3) := by decide +kernel
theorem dX4_addIndex_126 : decode cX4_addIndex 126 = .ok (.if_icmp .ge 31, 3) := by decide +kernel
theorem dX4_addIndex_129 : decode cX4_addIndex 129 = .ok (.aload_n 0, 1) := by decide +kernel
theorem dX4_addIndex_130 : decode cX4_addIndex 130 = .ok (.iload_n 1, 1) := by decide +kernel
theorem dX4_addIndex_131 : decode cX4_addIndex 131 = .ok (.iload 6, 2) := by decide +kernel
theorem dX4_addIndex_133 : decode cX4_addIndex 133 = .ok (.aload_n 0, 1) := by decide +kernel
theorem dX4_addIndex_134 : decode cX4_addIndex 134 = .ok (.aload_n 0, 1) := by decide +kernel
theorem dX4_addIndex_135 : decode cX4_addIndex 135 = .ok (.iload_n 1, 1) := by decide +kernel
theorem dX4_addIndex_136 : decode cX4_addIndex 136 = .ok (.iload 6, 2) := by decide +kernel
theorem dX4_addIndex_138 : decode cX4_addIndex 138 = .ok (.invokevirtual 95, 3) := by decide +kernel
theorem dX4_addIndex_141 : decode cX4_addIndex 141 = .ok (.iload_n 2, 1) := by decide +kernel
theorem dX4_addIndex_142 : decode cX4_addIndex 142 = .ok (.iload_n 3, 1) := by decide +kernel
theorem dX4_addIndex_143 : decode cX4_addIndex 143 = .ok (.iload 4, 2) := by decide +kernel
theorem dX4_addIndex_145 : decode cX4_addIndex 145 = .ok (.invokevirtual 114, 3) := by decide +kernel
theorem dX4_addIndex_148 : decode cX4_addIndex 148 = .ok (.invokevirtual 85, 3) := by decide +kernel
theorem dX4_addIndex_151 : decode cX4_addIndex 151 = .ok (.iinc 6 1, 3) := by decide +kernel
theorem dX4_addIndex_154 : decode cX4_addIndex 154 = .ok (.goto (-34), 3) := by decide +kernel
theorem dX4_addIndex_157 : decode cX4_addIndex 157 = .ok (.return_, 1) := by decide +kernel
theorem dX4_addIndexInFibers_0 : decode cX4_addIndexInFibers 0 = .ok (.iconst 0, 1) := by decide +kernel
theorem dX4_addIndexInFibers_1 : decode cX4_addIndexInFibers 1 = .ok (.istore 5, 2) := by decide +kernel
theorem dX4_addIndexInFibers_3 : decode cX4_addIndexInFibers 3 = .ok (.iload 5, 2) := by decide +kernel
theorem dX4_addIndexInFibers_5 : decode cX4_addIndexInFibers 5 = .ok (.aload_n 0, 1) := by decide +kernel
theorem dX4_addIndexInFibers_6 : decode cX4_addIndexInFibers 6 = .ok (.getfield 9, 3) := by decide +kernel
theorem dX4_addIndexInFibers_9 : decode cX4_addIndexInFibers 9 = .ok (.iconst 1, 1) := by decide +kernel
theorem dX4_addIndexInFibers_10 : decode cX4_addIndexInFibers 10 = .ok (.iaload, 1) := by decide +kernel
theorem dX4_addIndexInFibers_11 : decode cX4_addIndexInFibers 11 = .ok (.if_icmp .ge 31, 3) := by decide +kernel
theorem dX4_addIndexInFibers_14 : decode cX4_addIndexInFibers 14 = .ok (.aload_n 0, 1) := by decide +kernel
theorem dX4_addIndexInFibers_15 : decode cX4_addIndexInFibers 15 = .ok (.iload_n 1, 1) := by decide +kernel
theorem dX4_addIndexInFibers_16 : decode cX4_addIndexInFibers 16 = .ok (.iload 5, 2) := by decide +kernel
theorem dX4_addIndexInFibers_18 : decode cX4_addIndexInFibers 18 = .ok (.aload_n 0, 1) := by decide +kernel
theorem dX4_addIndexInFibers_19 : decode cX4_addIndexInFibers 19 = .ok (.aload_n 0, 1) := by decide +kernel
theorem dX4_addIndexInFibers_20 : decode cX4_addIndexInFibers 20 = .ok (.iload_n 1, 1) := by decide +kernel
theorem dX4_addIndexInFibers_21 : decode cX4_addIndexInFibers 21 = .ok (.iload 5, 2) := by decide +kernel
theorem dX4_addIndexInFibers_23 : decode cX4_addIndexInFibers 23 = .ok (.invokevirtual 60, 3) := by decide +kernel
theorem dX4_addIndexInFibers_26 : decode cX4_addIndexInFibers 26 = .ok (.iload_n 2, 1) := by decide +kernel
theorem dX4_addIndexInFibers_27 : decode cX4_addIndexInFibers 27 = .ok (.iload_n 3, 1) := by decide +kernel
theorem dX4_addIndexInFibers_28 : decode cX4_addIndexInFibers 28 = .ok (.iload 4, 2) := by decide +kernel
theorem dX4_addIndexInFibers_30 : decode cX4_addIndexInFibers 30 = .ok (.invokevirtual 114, 3) := by decide +kernel
theorem dX4_addIndexInFibers_33 : decode cX4_addIndexInFibers 33 = .ok (.invokevirtual 71, 3) := by decide +kernel
theorem dX4_addIndexInFibers_36 : decode cX4_addIndexInFibers 36 = .ok (.iinc 5 1, 3) := by decide +kernel
theorem dX4_addIndexInFibers_39 : decode cX4_addIndexInFibers 39 = .ok (.goto (-36), 3) := by decide +kernel
theorem dX4_addIndexInFibers_42 : decode cX4_addIndexInFibers 42 = .ok (.return_, 1) := by decide +kernel
theorem dX4_addedInRow_0 : decode cX4_addedInRow 0 = .ok (.aload_n 0, 1) := by decide +kernel
theorem dX4_addedInRow_1 : decode cX4_addedInRow 1 = .ok (.getfield 27, 3) := by decide +kernel
theorem dX4_addedInRow_4 : decode cX4_addedInRow 4 = .ok (.iload_n 1, 1) := by decide +kernel
theorem dX4_addedInRow_5 : decode cX4_addedInRow 5 = .ok (.iload_n 2, 1) := by decide +kernel
theorem dX4_addedInRow_6 : decode cX4_addedInRow 6 = .ok (.invokevirtual 64, 3) := by decide +kernel
theorem dX4_addedInRow_9 : decode cX4_addedInRow 9 = .ok (.iload 4, 2) := by decide +kernel
theorem dX4_addedInRow_11 : decode cX4_addedInRow 11 = .ok (.aload_n 0, 1) := by decide +kernel
theorem dX4_addedInRow_12 : decode cX4_addedInRow 12 = .ok (.getfield 27, 3) := by decide +kernel
theorem dX4_addedInRow_15 : decode cX4_addedInRow 15 = .ok (.iload_n 1, 1) := by decide +kernel
theorem dX4_addedInRow_16 : decode cX4_addedInRow 16 = .ok (.iload_n 3, 1) := by decide +kernel
theorem dX4_addedInRow_17 : decode cX4_addedInRow 17 = .ok (.invokevirtual 64, 3) := by decide +kernel
theorem dX4_addedInRow_20 : decode cX4_addedInRow 20 = .ok (.imul, 1) := by decide +kernel
theorem dX4_addedInRow_21 : decode cX4_addedInRow 21 = .ok (.iadd, 1) := by decide +kernel
theorem dX4_addedInRow_22 : decode cX4_addedInRow 22 = .ok (.aload_n 0, 1) := by decide +kernel
theorem dX4_addedInRow_23 : decode cX4_addedInRow 23 = .ok (.getfield 27, 3) := by decide +kernel
theorem dX4_addedInRow_26 : decode cX4_addedInRow 26 = .ok (.getfield 104, 3) := by decide +kernel
theorem dX4_addedInRow_29 : decode cX4_addedInRow 29 = .ok (.irem, 1) := by decide +kernel
theorem dX4_addedInRow_30 : decode cX4_addedInRow 30 = .ok (.istore 5, 2) := by decide +kernel
theorem dX4_addedInRow_32 : decode cX4_addedInRow 32 = .ok (.aload_n 0, 1) := by decide +kernel
theorem dX4_addedInRow_33 : decode cX4_addedInRow 33 = .ok (.getfield 27, 3) := by decide +kernel
theorem dX4_addedInRow_36 : decode cX4_addedInRow 36 = .ok (.iload_n 1, 1) := by decide +kernel
theorem dX4_addedInRow_37 : decode cX4_addedInRow 37 = .ok (.iload_n 2, 1) := by decide +kernel
theorem dX4_addedInRow_38 : decode cX4_addedInRow 38 = .ok (.iload 5, 2) := by decide +kernel
theorem dX4_addedInRow_40 : decode cX4_addedInRow 40 = .ok (.invokevirtual 67, 3) := by decide +kernel
theorem dX4_addedInRow_43 : decode cX4_addedInRow 43 = .ok (.ireturn, 1) := by decide +kernel
end
section
theorem dX5_init_0 : decode cX5_init 0 = .ok (.aload_n 0, 1) := by decide +kernel
theorem dX5_init_1 : decode cX5_init 1 = .ok (.invokespecial 3, 3) := by decide +kernel
theorem dX5_init_4 : decode cX5_init 4 = .ok (.aload_n 0, 1) := by decide +kernel
theorem dX5_init_5 : decode cX5_init 5 = .ok (.bipush 81, 2) := by decide +kernel
theorem dX5_init_7 : decode cX5_init 7 = .ok (.newarray .int, 2) := by decide +kernel
theorem dX5_init_9 : decode cX5_init 9 = .ok (.putfield 9, 3) := by decide +kernel
theorem dX5_init_12 : decode cX5_init 12 = .ok (.aload_n 0, 1) := by decide +kernel
theorem dX5_init_13 : decode cX5_init 13 = .ok (.aload_n 1, 1) := by decide +kernel
theorem dX5_init_14 : decode cX5_init 14 = .ok (.putfield 15, 3) := by decide +kernel
theorem dX5_init_17 : decode cX5_init 17 = .ok (.return_, 1) := by decide +kernel
theorem dX5_byBox_0 : decode cX5_byBox 0 = .ok (.iconst 0, 1) := by decide +kernel
theorem dX5_byBox_1 : decode cX5_byBox 1 = .ok (.istore 4, 2) := by decide +kernel
theorem dX5_byBox_3 : decode cX5_byBox 3 = .ok (.iconst 0, 1) := by decide +kernel
theorem dX5_byBox_4 : decode cX5_byBox 4 = .ok (.istore 5, 2) := by decide +kernel
theorem dX5_byBox_6 : decode cX5_byBox 6 = .ok (.iload 5, 2) := by decide +kernel
theorem dX5_byBox_8 : decode cX5_byBox 8 = .ok (.aload_n 1, 1) := by decide +kernel
theorem dX5_byBox_9 : decode cX5_byBox 9 = .ok (.getfield 19, 3) := by decide +kernel
theorem dX5_byBox_12 : decode cX5_byBox 12 = .ok (.iconst 0, 1) := by decide +kernel
theorem dX5_byBox_13 : decode cX5_byBox 13 = .ok (.iaload, 1) := by decide +kernel
theorem dX5_byBox_14 : decode cX5_byBox 14 = .ok (.if_icmp .ge 81, 3) := by decide +kernel
theorem dX5_byBox_17 : decode cX5_byBox 17 = .ok (.iconst 0, 1) := by decide +kernel
theorem dX5_byBox_18 : decode cX5_byBox 18 = .ok (.istore 6, 2) := by decide +kernel
theorem dX5_byBox_20 : decode cX5_byBox 20 = .ok (.iload 6, 2) := by decide +kernel
theorem dX5_byBox_22 : decode cX5_byBox 22 = .ok (.aload_n 1, 1) := by decide +kernel
theorem dX5_byBox_23 : decode cX5_byBox 23 = .ok (.getfield 19, 3) := by decide +kernel
theorem dX5_byBox_26 : decode cX5_byBox 26 = .ok (.iconst 1, 1) := by decide +kernel
theorem dX5_byBox_27 : decode cX5_byBox 27 = .ok (.iaload, 1) := by decide +kernel
theorem dX5_byBox_28 : decode cX5_byBox 28 = .ok (.if_icmp .ge 61, 3) := by decide +kernel
theorem dX5_byBox_31 : decode cX5_byBox 31 = .ok (.aload_n 0, 1) := by decide +kernel
theorem dX5_byBox_32 : decode cX5_byBox 32 = .ok (.getfield 15, 3) := by decide +kernel
theorem dX5_byBox_35 : decode cX5_byBox 35 = .ok (.iload_n 2, 1) := by decide +kernel
theorem dX5_byBox_36 : decode cX5_byBox 36 = .ok (.iload 5, 2) := by decide +kernel
theorem dX5_byBox_38 : decode cX5_byBox 38 = .ok (.invokevirtual 24, 3) := by decide +kernel
theorem dX5_byBox_41 : decode cX5_byBox 41 = .ok (.aload_n 0, 1) := by decide +kernel
theorem dX5_byBox_42 : decode cX5_byBox 42 = .ok (.getfield 15, 3) := by decide +kernel
theorem dX5_byBox_45 : decode cX5_byBox 45 = .ok (.iload_n 3, 1) := by decide +kernel
theorem dX5_byBox_46 : decode cX5_byBox 46 = .ok (.iload 6, 2) := by decide +kernel
theorem dX5_byBox_48 : decode cX5_byBox 48 = .ok (.invokevirtual 24, 3) := by decide +kernel
theorem dX5_byBox_51 : decode cX5_byBox 51 = .ok (.imul, 1) := by decide +kernel
theorem dX5_byBox_52 : decode cX5_byBox 52 = .ok (.aload_n 0, 1) := by decide +kernel
theorem dX5_byBox_53 : decode cX5_byBox 53 = .ok (.getfield 15, 3) := by decide +kernel
theorem dX5_byBox_56 : decode cX5_byBox 56 = .ok (.getfield 30, 3) := by decide +kernel
theorem dX5_byBox_59 : decode cX5_byBox 59 = .ok (.irem, 1) := by decide +kernel
theorem dX5_byBox_60 : decode cX5_byBox 60 = .ok (.istore 7, 2) := by decide +kernel
theorem dX5_byBox_62 : decode cX5_byBox 62 = .ok (.aload_n 0, 1) := by decide +kernel
theorem dX5_byBox_63 : decode cX5_byBox 63 = .ok (.getfield 15, 3) := by decide +kernel
theorem dX5_byBox_66 : decode cX5_byBox 66 = .ok (.iload 4, 2) := by decide +kernel
theorem dX5_byBox_68 : decode cX5_byBox 68 = .ok (.iload 7, 2) := by decide +kernel
theorem dX5_byBox_70 : decode cX5_byBox 70 = .ok (.aload_n 1, 1) := by decide +kernel
theorem dX5_byBox_71 : decode cX5_byBox 71 = .ok (.iload 5, 2) := by decide +kernel
theorem dX5_byBox_73 : decode cX5_byBox 73 = .ok (.iload 6, 2) := by decide +kernel
theorem dX5_byBox_75 : decode cX5_byBox 75 = .ok (.invokevirtual 34, 3) := by decide +kernel
theorem dX5_byBox_78 : decode cX5_byBox 78 = .ok (.invokevirtual 37, 3) := by decide +kernel
theorem dX5_byBox_81 : decode cX5_byBox 81 = .ok (.istore 4, 2) := by decide +kernel
theorem dX5_byBox_83 : decode cX5_byBox 83 = .ok (.iinc 6 1, 3) := by decide +kernel
theorem dX5_byBox_86 : decode cX5_byBox 86 = .ok (.goto (-66), 3) := by decide +kernel
theorem dX5_byBox_89 : decode cX5_byBox 89 = .ok (.iinc 5 1, 3) := by decide +kernel
theorem dX5_byBox_92 : decode cX5_byBox 92 = .ok (.goto (-86), 3) := by decide +kernel
theorem dX5_byBox_95 : decode cX5_byBox 95 = .ok (.iload 4, 2) := by decide +kernel
theorem dX5_byBox_97 : decode cX5_byBox 97 = .ok (.ireturn, 1) := by decide +kernel
theorem dX5_byScheme_0 : decode cX5_byScheme 0 = .ok (.iconst 0, 1) := by decide +kernel
theorem dX5_byScheme_1 : decode cX5_byScheme 1 = .ok (.istore 4, 2) := by decide +kernel
theorem dX5_byScheme_3 : decode cX5_byScheme 3 = .ok (.iconst 0, 1) := by decide +kernel
theorem dX5_byScheme_4 : decode cX5_byScheme 4 = .ok (.istore 5, 2) := by decide +kernel
theorem dX5_byScheme_6 : decode cX5_byScheme 6 = .ok (.iload 5, 2) := by decide +kernel
theorem dX5_byScheme_8 : decode cX5_byScheme 8 = .ok (.aload_n 1, 1) := by decide +kernel
theorem dX5_byScheme_9 : decode cX5_byScheme 9 = .ok (.getfield 41, 3) := by decide +kernel
theorem dX5_byScheme_12 : decode cX5_byScheme 12 = .ok (.if_icmp .ge 74, 3) := by decide +kernel
theorem dX5_byScheme_15 : decode cX5_byScheme 15 = .ok (.aload_n 0, 1) := by decide +kernel
theorem dX5_byScheme_16 : decode cX5_byScheme 16 = .ok (.getfield 15, 3) := by decide +kernel
theorem dX5_byScheme_19 : decode cX5_byScheme 19 = .ok (.aload_n 1, 1) := by decide +kernel
theorem dX5_byScheme_20 : decode cX5_byScheme 20 = .ok (.iconst 0, 1) := by decide +kernel
theorem dX5_byScheme_21 : decode cX5_byScheme 21 = .ok (.iload 5, 2) := by decide +kernel
theorem dX5_byScheme_23 : decode cX5_byScheme 23 = .ok (.invokevirtual 44, 3) := by decide +kernel
theorem dX5_byScheme_26 : decode cX5_byScheme 26 = .ok (.iload_n 2, 1) := by decide +kernel
theorem dX5_byScheme_27 : decode cX5_byScheme 27 = .ok (.invokevirtual 47, 3) := by decide +kernel
theorem dX5_byScheme_30 : decode cX5_byScheme 30 = .ok (.istore 6, 2) := by decide +kernel
theorem dX5_byScheme_32 : decode cX5_byScheme 32 = .ok (.aload_n 0, 1) := by decide +kernel
theorem dX5_byScheme_33 : decode cX5_byScheme 33 = .ok (.getfield 15, 3) := by decide +kernel
theorem dX5_byScheme_36 : decode cX5_byScheme 36 = .ok (.aload_n 1, 1) := by decide +kernel
theorem dX5_byScheme_37 : decode cX5_byScheme 37 = .ok (.iconst 1, 1) := by decide +kernel
theorem dX5_byScheme_38 : decode cX5_byScheme 38 = .ok (.iload 5, 2) := by decide +kernel
theorem dX5_byScheme_40 : decode cX5_byScheme 40 = .ok (.invokevirtual 44, 3) := by decide +kernel
theorem dX5_byScheme_43 : decode cX5_byScheme 43 = .ok (.iload_n 3, 1) := by decide +kernel
theorem dX5_byScheme_44 : decode cX5_byScheme 44 = .ok (.invokevirtual 47, 3) := by decide +kernel
theorem dX5_byScheme_47 : decode cX5_byScheme 47 = .ok (.istore 7, 2) := by decide +kernel
theorem dX5_byScheme_49 : decode cX5_byScheme 49 = .ok (.aload_n 0, 1) := by decide +kernel
theorem dX5_byScheme_50 : decode cX5_byScheme 50 = .ok (.getfield 15, 3) := by decide +kernel
theorem dX5_byScheme_53 : decode cX5_byScheme 53 = .ok (.iload 4, 2) := by decide +kernel
theorem dX5_byScheme_55 : decode cX5_byScheme 55 = .ok (.iload 6, 2) := by decide +kernel
theorem dX5_byScheme_57 : decode cX5_byScheme 57 = .ok (.iload 7, 2) := by decide +kernel
theorem dX5_byScheme_59 : decode cX5_byScheme 59 = .ok (.imul, 1) := by decide +kernel
theorem dX5_byScheme_60 : decode cX5_byScheme 60 = .ok (.aload_n 0, 1) := by decide +kernel
theorem dX5_byScheme_61 : decode cX5_byScheme 61 = .ok (.getfield 15, 3) := by decide +kernel
theorem dX5_byScheme_64 : decode cX5_byScheme 64 = .ok (.getfield 30, 3) := by decide +kernel
theorem dX5_byScheme_67 : decode cX5_byScheme 67 = .ok (.irem, 1) := by decide +kernel
theorem dX5_byScheme_68 : decode cX5_byScheme 68 = .ok (.aload_n 1, 1) := by decide +kernel
theorem dX5_byScheme_69 : decode cX5_byScheme 69 = .ok (.iconst 2, 1) := by decide +kernel
theorem dX5_byScheme_70 : decode cX5_byScheme 70 = .ok (.iload 5, 2) := by decide +kernel
theorem dX5_byScheme_72 : decode cX5_byScheme 72 = .ok (.invokevirtual 44, 3) := by decide +kernel
theorem dX5_byScheme_75 : decode cX5_byScheme 75 = .ok (.invokevirtual 37, 3) := by decide +kernel
theorem dX5_byScheme_78 : decode cX5_byScheme 78 = .ok (.istore 4, 2) := by decide +kernel
theorem dX5_byScheme_80 : decode cX5_byScheme 80 = .ok (.iinc 5 1, 3) := by decide +kernel
theorem dX5_byScheme_83 : decode cX5_byScheme 83 = .ok (.goto (-77), 3) := by decide +kernel
theorem dX5_byScheme_86 : decode cX5_byScheme 86 = .ok (.iload 4, 2) := by decide +kernel
theorem dX5_byScheme_88 : decode cX5_byScheme 88 = .ok (.ireturn, 1) := by decide +kernel
theorem dX5_wrongPlace_0 : decode cX5_wrongPlace 0 = .ok (.aload_n 0, 1) := by decide +kernel
theorem dX5_wrongPlace_1 : decode cX5_wrongPlace 1 = .ok (.aload_n 1, 1) := by decide +kernel
theorem dX5_wrongPlace_2 : decode cX5_wrongPlace 2 = .ok (.invokevirtual 50, 3) := by decide +kernel
theorem dX5_wrongPlace_5 : decode cX5_wrongPlace 5 = .ok (.iload_n 2, 1) := by decide +kernel
theorem dX5_wrongPlace_6 : decode cX5_wrongPlace 6 = .ok (.istore_n 3, 1) := by decide +kernel
theorem dX5_wrongPlace_7 : decode cX5_wrongPlace 7 = .ok (.iconst 0, 1) := by decide +kernel
theorem dX5_wrongPlace_8 : decode cX5_wrongPlace 8 = .ok (.istore 4, 2) := by decide +kernel
theorem dX5_wrongPlace_10 : decode cX5_wrongPlace 10 = .ok (.iload 4, 2) := by decide +kernel
theorem dX5_wrongPlace_12 : decode cX5_wrongPlace 12 = .ok (.aload_n 1, 1) := by decide +kernel
theorem dX5_wrongPlace_13 : decode cX5_wrongPlace 13 = .ok (.getfield 19, 3) := by decide +kernel
theorem dX5_wrongPlace_16 : decode cX5_wrongPlace 16 = .ok (.iconst 0, 1) := by decide +kernel
theorem dX5_wrongPlace_17 : decode cX5_wrongPlace 17 = .ok (.iaload, 1) := by decide +kernel
theorem dX5_wrongPlace_18 : decode cX5_wrongPlace 18 = .ok (.if_icmp .ge 102, 3) := by decide +kernel
theorem dX5_wrongPlace_21 : decode cX5_wrongPlace 21 = .ok (.iconst 0, 1) := by decide +kernel
theorem dX5_wrongPlace_22 : decode cX5_wrongPlace 22 = .ok (.istore 5, 2) := by decide +kernel
theorem dX5_wrongPlace_24 : decode cX5_wrongPlace 24 = .ok (.iload 5, 2) := by decide +kernel
theorem dX5_wrongPlace_26 : decode cX5_wrongPlace 26 = .ok (.aload_n 1, 1) := by decide +kernel
theorem dX5_wrongPlace_27 : decode cX5_wrongPlace 27 = .ok (.getfield 19, 3) := by decide +kernel
theorem dX5_wrongPlace_30 : decode cX5_wrongPlace 30 = .ok (.iconst 1, 1) := by decide +kernel
theorem dX5_wrongPlace_31 : decode cX5_wrongPlace 31 = .ok (.iaload, 1) := by decide +kernel
theorem dX5_wrongPlace_32 : decode cX5_wrongPlace 32 = .ok (.if_icmp .ge 82, 3) := by decide +kernel
theorem dX5_wrongPlace_35 : decode cX5_wrongPlace 35 = .ok (.aload_n 0, 1) := by decide +kernel
theorem dX5_wrongPlace_36 : decode cX5_wrongPlace 36 = .ok (.getfield 15, 3) := by decide +kernel
theorem dX5_wrongPlace_39 : decode cX5_wrongPlace 39 = .ok (.aload_n 0, 1) := by decide +kernel
theorem dX5_wrongPlace_40 : decode cX5_wrongPlace 40 = .ok (.getfield 9, 3) := by decide +kernel
theorem dX5_wrongPlace_43 : decode cX5_wrongPlace 43 = .ok (.bipush 9, 2) := by decide +kernel
theorem dX5_wrongPlace_45 : decode cX5_wrongPlace 45 = .ok (.iload 4, 2) := by decide +kernel
theorem dX5_wrongPlace_47 : decode cX5_wrongPlace 47 = .ok (.imul, 1) := by decide +kernel
theorem dX5_wrongPlace_48 : decode cX5_wrongPlace 48 = .ok (.iload 5, 2) := by decide +kernel
theorem dX5_wrongPlace_50 : decode cX5_wrongPlace 50 = .ok (.iadd, 1) := by decide +kernel
theorem dX5_wrongPlace_51 : decode cX5_wrongPlace 51 = .ok (.iaload, 1) := by decide +kernel
theorem dX5_wrongPlace_52 : decode cX5_wrongPlace 52 = .ok (.iconst 1, 1) := by decide +kernel
theorem dX5_wrongPlace_53 : decode cX5_wrongPlace 53 = .ok (.aload_n 1, 1) := by decide +kernel
theorem dX5_wrongPlace_54 : decode cX5_wrongPlace 54 = .ok (.iload 4, 2) := by decide +kernel
theorem dX5_wrongPlace_56 : decode cX5_wrongPlace 56 = .ok (.iload 5, 2) := by decide +kernel
theorem dX5_wrongPlace_58 : decode cX5_wrongPlace 58 = .ok (.invokevirtual 34, 3) := by decide +kernel
theorem dX5_wrongPlace_61 : decode cX5_wrongPlace 61 = .ok (.invokevirtual 54, 3) := by decide +kernel
theorem dX5_wrongPlace_64 : decode cX5_wrongPlace 64 = .ok (.istore 6, 2) := by decide +kernel
theorem dX5_wrongPlace_66 : decode cX5_wrongPlace 66 = .ok (.aload_n 0, 1) := by decide +kernel
theorem dX5_wrongPlace_67 : decode cX5_wrongPlace 67 = .ok (.getfield 15, 3) := by decide +kernel
theorem dX5_wrongPlace_70 : decode cX5_wrongPlace 70 = .ok (.iload 6, 2) := by decide +kernel
theorem dX5_wrongPlace_72 : decode cX5_wrongPlace 72 = .ok (.invokevirtual 57, 3) := by decide +kernel
theorem dX5_wrongPlace_75 : decode cX5_wrongPlace 75 = .ok (.istore 7, 2) := by decide +kernel
theorem dX5_wrongPlace_77 : decode cX5_wrongPlace 77 = .ok (.iload 7, 2) := by decide +kernel
theorem dX5_wrongPlace_79 : decode cX5_wrongPlace 79 = .ok (.iload_n 3, 1) := by decide +kernel
theorem dX5_wrongPlace_80 : decode cX5_wrongPlace 80 = .ok (.if_icmp .le 23, 3) := by decide +kernel
theorem dX5_wrongPlace_83 : decode cX5_wrongPlace 83 = .ok (.bipush 100, 2) := by decide +kernel
theorem dX5_wrongPlace_85 : decode cX5_wrongPlace 85 = .ok (.iload 4, 2) := by decide +kernel
theorem dX5_wrongPlace_87 : decode cX5_wrongPlace 87 = .ok (.imul, 1) := by decide +kernel
theorem dX5_wrongPlace_88 : decode cX5_wrongPlace 88 = .ok (.bipush 10, 2) := by decide +kernel
theorem dX5_wrongPlace_90 : decode cX5_wrongPlace 90 = .ok (.iload 5, 2) := by decide +kernel
theorem dX5_wrongPlace_92 : decode cX5_wrongPlace 92 = .ok (.imul, 1) := by decide +kernel
theorem dX5_wrongPlace_93 : decode cX5_wrongPlace 93 = .ok (.iadd, 1) := by decide +kernel
theorem dX5_wrongPlace_94 : decode cX5_wrongPlace 94 = .ok (.aload_n 0, 1) := by decide +kernel
theorem dX5_wrongPlace_95 : decode cX5_wrongPlace 95 = .ok (.iload 6, 2) := by decide +kernel
theorem dX5_wrongPlace_97 : decode cX5_wrongPlace 97 = .ok (.iload_n 3, 1) := by decide +kernel
theorem dX5_wrongPlace_98 : decode cX5_wrongPlace 98 = .ok (.invokevirtual 61, 3) := by decide +kernel
theorem dX5_wrongPlace_101 : decode cX5_wrongPlace 101 = .ok (.iadd, 1) := by decide +kernel
theorem dX5_wrongPlace_102 : decode cX5_wrongPlace 102 = .ok (.ireturn, 1) := by decide +kernel
theorem dX5_wrongPlace_103 : decode cX5_wrongPlace 103 = .ok (.iload_n 3, 1) := by decide +kernel
theorem dX5_wrongPlace_104 : decode cX5_wrongPlace 104 = .ok (.iload 7, 2) := by decide +kernel
theorem dX5_wrongPlace_106 : decode cX5_wrongPlace 106 = .ok (.isub, 1) := by decide +kernel
theorem dX5_wrongPlace_107 : decode cX5_wrongPlace 107 = .ok (.istore_n 3, 1) := by decide +kernel
theorem dX5_wrongPlace_108 : decode cX5_wrongPlace 108 = .ok (.iinc 5 1, 3) := by decide +kernel
theorem dX5_wrongPlace_111 : decode cX5_wrongPlace 111 = .ok (.goto (-87), 3) := by decide +kernel
theorem dX5_wrongPlace_114 : decode cX5_wrongPlace 114 = .ok (.iinc 4 1, 3) := by decide +kernel
theorem dX5_wrongPlace_117 : decode cX5_wrongPlace 117 = .ok (.goto (-107), 3) := by decide +kernel
theorem dX5_wrongPlace_120 : decode cX5_wrongPlace 120 = .ok (.iconst (-1), 1) := by decide +kernel
theorem dX5_wrongPlace_121 : decode cX5_wrongPlace 121 = .ok (.ireturn, 1) := by decide +kernel
theorem dX5_filledIndex_0 : decode cX5_filledIndex 0 = .ok (.iload_n 2, 1) := by decide +kernel
theorem dX5_filledIndex_1 : decode cX5_filledIndex 1 = .ok (.istore_n 3, 1) := by decide +kernel
theorem dX5_filledIndex_2 : decode cX5_filledIndex 2 = .ok (.iconst 0, 1) := by decide +kernel
theorem dX5_filledIndex_3 : decode cX5_filledIndex 3 = .ok (.istore 4, 2) := by decide +kernel
theorem dX5_filledIndex_5 : decode cX5_filledIndex 5 = .ok (.iload 4, 2) := by decide +kernel
theorem dX5_filledIndex_7 : decode cX5_filledIndex 7 = .ok (.bipush 9, 2) := by decide +kernel
theorem dX5_filledIndex_9 : decode cX5_filledIndex 9 = .ok (.if_icmp .ge 32, 3) := by decide +kernel
theorem dX5_filledIndex_12 : decode cX5_filledIndex 12 = .ok (.aload_n 0, 1) := by decide +kernel
theorem dX5_filledIndex_13 : decode cX5_filledIndex 13 = .ok (.getfield 15, 3) := by decide +kernel
theorem dX5_filledIndex_16 : decode cX5_filledIndex 16 = .ok (.iload_n 1, 1) := by decide +kernel
theorem dX5_filledIndex_17 : decode cX5_filledIndex 17 = .ok (.iload 4, 2) := by decide +kernel
theorem dX5_filledIndex_19 : decode cX5_filledIndex 19 = .ok (.invokevirtual 24, 3) := by decide +kernel
theorem dX5_filledIndex_22 : decode cX5_filledIndex 22 = .ok (.ifCond .eq 13, 3) := by decide +kernel
theorem dX5_filledIndex_25 : decode cX5_filledIndex 25 = .ok (.iload_n 3, 1) := by decide +kernel
theorem dX5_filledIndex_26 : decode cX5_filledIndex 26 = .ok (.ifCond .ne 6, 3) := by decide +kernel
theorem dX5_filledIndex_29 : decode cX5_filledIndex 29 = .ok (.iload 4, 2) := by decide +kernel
theorem dX5_filledIndex_31 : decode cX5_filledIndex 31 = .ok (.ireturn, 1) := by decide +kernel
theorem dX5_filledIndex_32 : decode cX5_filledIndex 32 = .ok (.iinc 3 (-1), 3) := by decide +kernel
theorem dX5_filledIndex_35 : decode cX5_filledIndex 35 = .ok (.iinc 4 1, 3) := by decide +kernel
theorem dX5_filledIndex_38 : decode cX5_filledIndex 38 = .ok (.goto (-33), 3) := by decide +kernel
theorem dX5_filledIndex_41 : decode cX5_filledIndex 41 = .ok (.iconst 0, 1) := by decide +kernel
theorem dX5_filledIndex_42 : decode cX5_filledIndex 42 = .ok (.ireturn, 1) := by decide +kernel
theorem dX5_addAll_0 : decode cX5_addAll 0 = .ok (.aload_n 0, 1) := by decide +kernel
theorem dX5_addAll_1 : decode cX5_addAll 1 = .ok (.getfield 9, 3) := by decide +kernel
theorem dX5_addAll_4 : decode cX5_addAll 4 = .ok (.iconst 0, 1) := by decide +kernel
theorem dX5_addAll_5 : decode cX5_addAll 5 = .ok (.invokestatic 64, 3) := by decide +kernel
theorem dX5_addAll_8 : decode cX5_addAll 8 = .ok (.iconst 0, 1) := by decide +kernel
theorem dX5_addAll_9 : decode cX5_addAll 9 = .ok (.istore_n 2, 1) := by decide +kernel
theorem dX5_addAll_10 : decode cX5_addAll 10 = .ok (.iload_n 2, 1) := by decide +kernel
theorem dX5_addAll_11 : decode cX5_addAll 11 = .ok (.aload_n 1, 1) := by decide +kernel
theorem dX5_addAll_12 : decode cX5_addAll 12 = .ok (.getfield 41, 3) := by decide +kernel
theorem dX5_addAll_15 : decode cX5_addAll 15 = .ok (.if_icmp .ge 63, 3) := by decide +kernel
theorem dX5_addAll_18 : decode cX5_addAll 18 = .ok (.aload_n 1, 1) := by decide +kernel
theorem dX5_addAll_19 : decode cX5_addAll 19 = .ok (.iconst 0, 1) := by decide +kernel
theorem dX5_addAll_20 : decode cX5_addAll 20 = .ok (.iload_n 2, 1) := by decide +kernel
theorem dX5_addAll_21 : decode cX5_addAll 21 = .ok (.invokevirtual 44, 3) := by decide +kernel
theorem dX5_addAll_24 : decode cX5_addAll 24 = .ok (.istore_n 3, 1) := by decide +kernel
theorem dX5_addAll_25 : decode cX5_addAll 25 = .ok (.iconst 0, 1) := by decide +kernel
theorem dX5_addAll_26 : decode cX5_addAll 26 = .ok (.istore 4, 2) := by decide +kernel
theorem dX5_addAll_28 : decode cX5_addAll 28 = .ok (.iload 4, 2) := by decide +kernel
theorem dX5_addAll_30 : decode cX5_addAll 30 = .ok (.aload_n 1, 1) := by decide +kernel
theorem dX5_addAll_31 : decode cX5_addAll 31 = .ok (.getfield 19, 3) := by decide +kernel
theorem dX5_addAll_34 : decode cX5_addAll 34 = .ok (.iconst 0, 1) := by decide +kernel
theorem dX5_addAll_35 : decode cX5_addAll 35 = .ok (.iaload, 1) := by decide +kernel
theorem dX5_addAll_36 : decode cX5_addAll 36 = .ok (.if_icmp .ge 36, 3) := by decide +kernel
theorem dX5_addAll_39 : decode cX5_addAll 39 = .ok (.aload_n 0, 1) := by decide +kernel
theorem dX5_addAll_40 : decode cX5_addAll 40 = .ok (.getfield 15, 3) := by decide +kernel
theorem dX5_addAll_43 : decode cX5_addAll 43 = .ok (.iload_n 3, 1) := by decide +kernel
theorem dX5_addAll_44 : decode cX5_addAll 44 = .ok (.iload 4, 2) := by decide +kernel
theorem dX5_addAll_46 : decode cX5_addAll 46 = .ok (.invokevirtual 24, 3) := by decide +kernel
theorem dX5_addAll_49 : decode cX5_addAll 49 = .ok (.istore 5, 2) := by decide +kernel
theorem dX5_addAll_51 : decode cX5_addAll 51 = .ok (.iload 5, 2) := by decide +kernel
theorem dX5_addAll_53 : decode cX5_addAll 53 = .ok (.ifCond .eq 13, 3) := by decide +kernel
theorem dX5_addAll_56 : decode cX5_addAll 56 = .ok (.aload_n 0, 1) := by decide +kernel
theorem dX5_addAll_57 : decode cX5_addAll 57 = .ok (.aload_n 1, 1) := by decide +kernel
theorem dX5_addAll_58 : decode cX5_addAll 58 = .ok (.iload_n 2, 1) := by decide +kernel
theorem dX5_addAll_59 : decode cX5_addAll 59 = .ok (.iload 4, 2) := by decide +kernel
theorem dX5_addAll_61 : decode cX5_addAll 61 = .ok (.iload 5, 2) := by decide +kernel
theorem dX5_addAll_63 : decode cX5_addAll 63 = .ok (.invokevirtual 70, 3) := by decide +kernel
theorem dX5_addAll_66 : decode cX5_addAll 66 = .ok (.iinc 4 1, 3) := by decide +kernel
theorem dX5_addAll_69 : decode cX5_addAll 69 = .ok (.goto (-41), 3) := by decide +kernel
theorem dX5_addAll_72 : decode cX5_addAll 72 = .ok (.iinc 2 1, 3) := by decide +kernel
theorem dX5_addAll_75 : decode cX5_addAll 75 = .ok (.goto (-65), 3) := by decide +kernel
theorem dX5_addAll_78 : decode cX5_addAll 78 = .ok (.return_, 1) := by decide +kernel
theorem dX5_addLine_0 : decode cX5_addLine 0 = .ok (.aload_n 1, 1) := by decide +kernel
theorem dX5_addLine_1 : decode cX5_addLine 1 = .ok (.iconst 1, 1) := by decide +kernel
theorem dX5_addLine_2 : decode cX5_addLine 2 = .ok (.iload_n 2, 1) := by decide +kernel
theorem dX5_addLine_3 : decode cX5_addLine 3 = .ok (.invokevirtual 44, 3) := by decide +kernel
theorem dX5_addLine_6 : decode cX5_addLine 6 = .ok (.istore 5, 2) := by decide +kernel
theorem dX5_addLine_8 : decode cX5_addLine 8 = .ok (.aload_n 1, 1) := by decide +kernel
theorem dX5_addLine_9 : decode cX5_addLine 9 = .ok (.iconst 2, 1) := by decide +kernel
theorem dX5_addLine_10 : decode cX5_addLine 10 = .ok (.iload_n 2, 1) := by decide +kernel
theorem dX5_addLine_11 : decode cX5_addLine 11 = .ok (.invokevirtual 44, 3) := by decide +kernel
theorem dX5_addLine_14 : decode cX5_addLine 14 = .ok (.istore 6, 2) := by decide +kernel
theorem dX5_addLine_16 : decode cX5_addLine 16 = .ok (.iconst 0, 1) := by decide +kernel
theorem dX5_addLine_17 : decode cX5_addLine 17 = .ok (.istore 7, 2) := by decide +kernel
theorem dX5_addLine_19 : decode cX5_addLine 19 = .ok (.iload 7, 2) := by decide +kernel
theorem dX5_addLine_21 : decode cX5_addLine 21 = .ok (.aload_n 1, 1) := by decide +kernel
theorem dX5_addLine_22 : decode cX5_addLine 22 = .ok (.getfield 19, 3) := by decide +kernel
theorem dX5_addLine_25 : decode cX5_addLine 25 = .ok (.iconst 1, 1) := by decide +kernel
theorem dX5_addLine_26 : decode cX5_addLine 26 = .ok (.iaload, 1) := by decide +kernel
theorem dX5_addLine_27 : decode cX5_addLine 27 = .ok (.if_icmp .ge 67, 3) := by decide +kernel
theorem dX5_addLine_30 : decode cX5_addLine 30 = .ok (.iload 4, 2) := by decide +kernel
theorem dX5_addLine_32 : decode cX5_addLine 32 = .ok (.aload_n 0, 1) := by decide +kernel
theorem dX5_addLine_33 : decode cX5_addLine 33 = .ok (.getfield 15, 3) := by decide +kernel
theorem dX5_addLine_36 : decode cX5_addLine 36 = .ok (.iload 5, 2) := by decide +kernel
theorem dX5_addLine_38 : decode cX5_addLine 38 = .ok (.iload 7, 2) := by decide +kernel
theorem dX5_addLine_40 : decode cX5_addLine 40 = .ok (.invokevirtual 24, 3) := by decide +kernel
theorem dX5_addLine_43 : decode cX5_addLine 43 = .ok (.imul, 1) := by decide +kernel
theorem dX5_addLine_44 : decode cX5_addLine 44 = .ok (.aload_n 0, 1) := by decide +kernel
theorem dX5_addLine_45 : decode cX5_addLine 45 = .ok (.getfield 15, 3) := by decide +kernel
theorem dX5_addLine_48 : decode cX5_addLine 48 = .ok (.getfield 30, 3) := by decide +kernel
theorem dX5_addLine_51 : decode cX5_addLine 51 = .ok (.irem, 1) := by decide +kernel
theorem dX5_addLine_52 : decode cX5_addLine 52 = .ok (.istore 8, 2) := by decide +kernel
theorem dX5_addLine_54 : decode cX5_addLine 54 = .ok (.bipush 9, 2) := by decide +kernel
theorem dX5_addLine_56 : decode cX5_addLine 56 = .ok (.iload_n 3, 1) := by decide +kernel
theorem dX5_addLine_57 : decode cX5_addLine 57 = .ok (.imul, 1) := by decide +kernel
theorem dX5_addLine_58 : decode cX5_addLine 58 = .ok (.iload 7, 2) := by decide +kernel
theorem dX5_addLine_60 : decode cX5_addLine 60 = .ok (.iadd, 1) := by decide +kernel
theorem dX5_addLine_61 : decode cX5_addLine 61 = .ok (.istore 9, 2) := by decide +kernel
theorem dX5_addLine_63 : decode cX5_addLine 63 = .ok (.aload_n 0, 1) := by decide +kernel
theorem dX5_addLine_64 : decode cX5_addLine 64 = .ok (.getfield 9, 3) := by decide +kernel
theorem dX5_addLine_67 : decode cX5_addLine 67 = .ok (.iload 9, 2) := by decide +kernel
theorem dX5_addLine_69 : decode cX5_addLine 69 = .ok (.aload_n 0, 1) := by decide +kernel
theorem dX5_addLine_70 : decode cX5_addLine 70 = .ok (.getfield 15, 3) := by decide +kernel
theorem dX5_addLine_73 : decode cX5_addLine 73 = .ok (.aload_n 0, 1) := by decide +kernel
theorem dX5_addLine_74 : decode cX5_addLine 74 = .ok (.getfield 9, 3) := by decide +kernel
theorem dX5_addLine_77 : decode cX5_addLine 77 = .ok (.iload 9, 2) := by decide +kernel
theorem dX5_addLine_79 : decode cX5_addLine 79 = .ok (.iaload, 1) := by decide +kernel
theorem dX5_addLine_80 : decode cX5_addLine 80 = .ok (.iload 8, 2) := by decide +kernel
theorem dX5_addLine_82 : decode cX5_addLine 82 = .ok (.iload 6, 2) := by decide +kernel
theorem dX5_addLine_84 : decode cX5_addLine 84 = .ok (.invokevirtual 37, 3) := by decide +kernel
theorem dX5_addLine_87 : decode cX5_addLine 87 = .ok (.iastore, 1) := by decide +kernel
theorem dX5_addLine_88 : decode cX5_addLine 88 = .ok (.iinc 7 1, 3) := by decide +kernel
theorem dX5_addLine_91 : decode cX5_addLine 91 = .ok (.goto (-72), 3) := by decide +kernel
theorem dX5_addLine_94 : decode cX5_addLine 94 = .ok (.return_, 1) := by decide +kernel
end
section
theorem dX6_init_0 : decode cX6_init 0 = .ok (.aload_n 0, 1) := by decide +kernel
theorem dX6_init_1 : decode cX6_init 1 = .ok (.invokespecial 3, 3) := by decide +kernel
theorem dX6_init_4 : decode cX6_init 4 = .ok (.aload_n 0, 1) := by decide +kernel
theorem dX6_init_5 : decode cX6_init 5 = .ok (.bipush 60, 2) := by decide +kernel
theorem dX6_init_7 : decode cX6_init 7 = .ok (.newarray .int, 2) := by decide +kernel
theorem dX6_init_9 : decode cX6_init 9 = .ok (.putfield 9, 3) := by decide +kernel
theorem dX6_init_12 : decode cX6_init 12 = .ok (.aload_n 0, 1) := by decide +kernel
theorem dX6_init_13 : decode cX6_init 13 = .ok (.bipush 60, 2) := by decide +kernel
theorem dX6_init_15 : decode cX6_init 15 = .ok (.newarray .int, 2) := by decide +kernel
theorem dX6_init_17 : decode cX6_init 17 = .ok (.putfield 15, 3) := by decide +kernel
theorem dX6_init_20 : decode cX6_init 20 = .ok (.aload_n 0, 1) := by decide +kernel
theorem dX6_init_21 : decode cX6_init 21 = .ok (.bipush 60, 2) := by decide +kernel
theorem dX6_init_23 : decode cX6_init 23 = .ok (.newarray .int, 2) := by decide +kernel
theorem dX6_init_25 : decode cX6_init 25 = .ok (.putfield 18, 3) := by decide +kernel
theorem dX6_init_28 : decode cX6_init 28 = .ok (.aload_n 0, 1) := by decide +kernel
theorem dX6_init_29 : decode cX6_init 29 = .ok (.iconst 5, 1) := by decide +kernel
theorem dX6_init_30 : decode cX6_init 30 = .ok (.bipush 60, 2) := by decide +kernel
theorem dX6_init_32 : decode cX6_init 32 = .ok (.multianewarray 21 2, 4) := by decide +kernel
theorem dX6_init_36 : decode cX6_init 36 = .ok (.putfield 23, 3) := by decide +kernel
theorem dX6_init_39 : decode cX6_init 39 = .ok (.aload_n 0, 1) := by decide +kernel
theorem dX6_init_40 : decode cX6_init 40 = .ok (.iconst 4, 1) := by decide +kernel
theorem dX6_init_41 : decode cX6_init 41 = .ok (.newarray .int, 2) := by decide +kernel
theorem dX6_init_43 : decode cX6_init 43 = .ok (.putfield 26, 3) := by decide +kernel
theorem dX6_init_46 : decode cX6_init 46 = .ok (.aload_n 0, 1) := by decide +kernel
theorem dX6_init_47 : decode cX6_init 47 = .ok (.aload_n 1, 1) := by decide +kernel
theorem dX6_init_48 : decode cX6_init 48 = .ok (.putfield 29, 3) := by decide +kernel
theorem dX6_init_51 : decode cX6_init 51 = .ok (.aload_n 0, 1) := by decide +kernel
theorem dX6_init_52 : decode cX6_init 52 = .ok (.new 33, 3) := by decide +kernel
theorem dX6_init_55 : decode cX6_init 55 = .ok (.dup, 1) := by decide +kernel
theorem dX6_init_56 : decode cX6_init 56 = .ok (.aload_n 1, 1) := by decide +kernel
theorem dX6_init_57 : decode cX6_init 57 = .ok (.invokespecial 35, 3) := by decide +kernel
theorem dX6_init_60 : decode cX6_init 60 = .ok (.putfield 38, 3) := by decide +kernel
theorem dX6_init_63 : decode cX6_init 63 = .ok (.aload_n 0, 1) := by decide +kernel
theorem dX6_init_64 : decode cX6_init 64 = .ok (.new 33, 3) := by decide +kernel
theorem dX6_init_67 : decode cX6_init 67 = .ok (.dup, 1) := by decide +kernel
theorem dX6_init_68 : decode cX6_init 68 = .ok (.aload_n 1, 1) := by decide +kernel
theorem dX6_init_69 : decode cX6_init 69 = .ok (.invokespecial 35, 3) := by decide +kernel
theorem dX6_init_72 : decode cX6_init 72 = .ok (.putfield 42, 3) := by decide +kernel
theorem dX6_init_75 : decode cX6_init 75 = .ok (.return_, 1) := by decide +kernel
theorem dX6_seek_0 : decode cX6_seek 0 = .ok (.aload_n 1, 1) := by decide +kernel
theorem dX6_seek_1 : decode cX6_seek 1 = .ok (.getfield 45, 3) := by decide +kernel
theorem dX6_seek_4 : decode cX6_seek 4 = .ok (.iconst 0, 1) := by decide +kernel
theorem dX6_seek_5 : decode cX6_seek 5 = .ok (.iaload, 1) := by decide +kernel
theorem dX6_seek_6 : decode cX6_seek 6 = .ok (.istore_n 2, 1) := by decide +kernel
theorem dX6_seek_7 : decode cX6_seek 7 = .ok (.aload_n 1, 1) := by decide +kernel
theorem dX6_seek_8 : decode cX6_seek 8 = .ok (.getfield 45, 3) := by decide +kernel
theorem dX6_seek_11 : decode cX6_seek 11 = .ok (.iconst 1, 1) := by decide +kernel
theorem dX6_seek_12 : decode cX6_seek 12 = .ok (.iaload, 1) := by decide +kernel
theorem dX6_seek_13 : decode cX6_seek 13 = .ok (.istore_n 3, 1) := by decide +kernel
theorem dX6_seek_14 : decode cX6_seek 14 = .ok (.aload_n 0, 1) := by decide +kernel
theorem dX6_seek_15 : decode cX6_seek 15 = .ok (.getfield 29, 3) := by decide +kernel
theorem dX6_seek_18 : decode cX6_seek 18 = .ok (.iload_n 2, 1) := by decide +kernel
theorem dX6_seek_19 : decode cX6_seek 19 = .ok (.invokevirtual 50, 3) := by decide +kernel
theorem dX6_seek_22 : decode cX6_seek 22 = .ok (.i2l, 1) := by decide +kernel
theorem dX6_seek_23 : decode cX6_seek 23 = .ok (.aload_n 0, 1) := by decide +kernel
theorem dX6_seek_24 : decode cX6_seek 24 = .ok (.getfield 29, 3) := by decide +kernel
theorem dX6_seek_27 : decode cX6_seek 27 = .ok (.iload_n 3, 1) := by decide +kernel
theorem dX6_seek_28 : decode cX6_seek 28 = .ok (.invokevirtual 50, 3) := by decide +kernel
theorem dX6_seek_31 : decode cX6_seek 31 = .ok (.i2l, 1) := by decide +kernel
theorem dX6_seek_32 : decode cX6_seek 32 = .ok (.lmul, 1) := by decide +kernel
theorem dX6_seek_33 : decode cX6_seek 33 = .ok (.ldc2_w 56, 3) := by decide +kernel
theorem dX6_seek_36 : decode cX6_seek 36 = .ok (.lcmp, 1) := by decide +kernel
theorem dX6_seek_37 : decode cX6_seek 37 = .ok (.ifCond .le 6, 3) := by decide +kernel
theorem dX6_seek_40 : decode cX6_seek 40 = .ok (.bipush (-3), 2) := by decide +kernel
theorem dX6_seek_42 : decode cX6_seek 42 = .ok (.ireturn, 1) := by decide +kernel
theorem dX6_seek_43 : decode cX6_seek 43 = .ok (.aload_n 0, 1) := by decide +kernel
theorem dX6_seek_44 : decode cX6_seek 44 = .ok (.aload_n 1, 1) := by decide +kernel
theorem dX6_seek_45 : decode cX6_seek 45 = .ok (.invokevirtual 58, 3) := by decide +kernel
theorem dX6_seek_48 : decode cX6_seek 48 = .ok (.aload_n 0, 1) := by decide +kernel
theorem dX6_seek_49 : decode cX6_seek 49 = .ok (.iload_n 2, 1) := by decide +kernel
theorem dX6_seek_50 : decode cX6_seek 50 = .ok (.iload_n 3, 1) := by decide +kernel
theorem dX6_seek_51 : decode cX6_seek 51 = .ok (.invokevirtual 62, 3) := by decide +kernel
theorem dX6_seek_54 : decode cX6_seek 54 = .ok (.aload_n 0, 1) := by decide +kernel
theorem dX6_seek_55 : decode cX6_seek 55 = .ok (.getfield 38, 3) := by decide +kernel
theorem dX6_seek_58 : decode cX6_seek 58 = .ok (.getfield 66, 3) := by decide +kernel
theorem dX6_seek_61 : decode cX6_seek 61 = .ok (.istore 4, 2) := by decide +kernel
theorem dX6_seek_63 : decode cX6_seek 63 = .ok (.iload 4, 2) := by decide +kernel
theorem dX6_seek_65 : decode cX6_seek 65 = .ok (.iconst 4, 1) := by decide +kernel
theorem dX6_seek_66 : decode cX6_seek 66 = .ok (.if_icmp .gt 49, 3) := by decide +kernel
theorem dX6_seek_69 : decode cX6_seek 69 = .ok (.aload_n 0, 1) := by decide +kernel
theorem dX6_seek_70 : decode cX6_seek 70 = .ok (.iload 4, 2) := by decide +kernel
theorem dX6_seek_72 : decode cX6_seek 72 = .ok (.putfield 70, 3) := by decide +kernel
theorem dX6_seek_75 : decode cX6_seek 75 = .ok (.aload_n 0, 1) := by decide +kernel
theorem dX6_seek_76 : decode cX6_seek 76 = .ok (.iload 4, 2) := by decide +kernel
theorem dX6_seek_78 : decode cX6_seek 78 = .ok (.aload_n 0, 1) := by decide +kernel
theorem dX6_seek_79 : decode cX6_seek 79 = .ok (.getfield 38, 3) := by decide +kernel
theorem dX6_seek_82 : decode cX6_seek 82 = .ok (.getfield 66, 3) := by decide +kernel
theorem dX6_seek_85 : decode cX6_seek 85 = .ok (.isub, 1) := by decide +kernel
theorem dX6_seek_86 : decode cX6_seek 86 = .ok (.putfield 73, 3) := by decide +kernel
theorem dX6_seek_89 : decode cX6_seek 89 = .ok (.aload_n 0, 1) := by decide +kernel
theorem dX6_seek_90 : decode cX6_seek 90 = .ok (.getfield 42, 3) := by decide +kernel
theorem dX6_seek_93 : decode cX6_seek 93 = .ok (.invokevirtual 76, 3) := by decide +kernel
theorem dX6_seek_96 : decode cX6_seek 96 = .ok (.aload_n 0, 1) := by decide +kernel
theorem dX6_seek_97 : decode cX6_seek 97 = .ok (.iconst 0, 1) := by decide +kernel
theorem dX6_seek_98 : decode cX6_seek 98 = .ok (.iconst 0, 1) := by decide +kernel
theorem dX6_seek_99 : decode cX6_seek 99 = .ok (.iconst 0, 1) := by decide +kernel
theorem dX6_seek_100 : decode cX6_seek 100 = .ok (.invokevirtual 79, 3) := by decide +kernel
theorem dX6_seek_103 : decode cX6_seek 103 = .ok (.ifCond .eq 6, 3) := by decide +kernel
theorem dX6_seek_106 : decode cX6_seek 106 = .ok (.iload 4, 2) := by decide +kernel
theorem dX6_seek_108 : decode cX6_seek 108 = .ok (.ireturn, 1) := by decide +kernel
theorem dX6_seek_109 : decode cX6_seek 109 = .ok (.iinc 4 1, 3) := by decide +kernel
theorem dX6_seek_112 : decode cX6_seek 112 = .ok (.goto (-49), 3) := by decide +kernel
theorem dX6_seek_115 : decode cX6_seek 115 = .ok (.bipush (-5), 2) := by decide +kernel
theorem dX6_seek_117 : decode cX6_seek 117 = .ok (.ireturn, 1) := by decide +kernel
theorem dX6_takeSlices_0 : decode cX6_takeSlices 0 = .ok (.aload_n 0, 1) := by decide +kernel
theorem dX6_takeSlices_1 : decode cX6_takeSlices 1 = .ok (.getfield 38, 3) := by decide +kernel
theorem dX6_takeSlices_4 : decode cX6_takeSlices 4 = .ok (.invokevirtual 76, 3) := by decide +kernel
theorem dX6_takeSlices_7 : decode cX6_takeSlices 7 = .ok (.iconst 0, 1) := by decide +kernel
theorem dX6_takeSlices_8 : decode cX6_takeSlices 8 = .ok (.istore_n 2, 1) := by decide +kernel
theorem dX6_takeSlices_9 : decode cX6_takeSlices 9 = .ok (.iload_n 2, 1) := by decide +kernel
theorem dX6_takeSlices_10 : decode cX6_takeSlices 10 = .ok (.aload_n 1, 1) := by decide +kernel
theorem dX6_takeSlices_11 : decode cX6_takeSlices 11 = .ok (.getfield 45, 3) := by decide +kernel
theorem dX6_takeSlices_14 : decode cX6_takeSlices 14 = .ok (.iconst 2, 1) := by decide +kernel
theorem dX6_takeSlices_15 : decode cX6_takeSlices 15 = .ok (.iaload, 1) := by decide +kernel
theorem dX6_takeSlices_16 : decode cX6_takeSlices 16 = .ok (.if_icmp .ge 23, 3) := by decide +kernel
theorem dX6_takeSlices_19 : decode cX6_takeSlices 19 = .ok (.aload_n 0, 1) := by decide +kernel
theorem dX6_takeSlices_20 : decode cX6_takeSlices 20 = .ok (.getfield 38, 3) := by decide +kernel
theorem dX6_takeSlices_23 : decode cX6_takeSlices 23 = .ok (.aload_n 0, 1) := by decide +kernel
theorem dX6_takeSlices_24 : decode cX6_takeSlices 24 = .ok (.aload_n 1, 1) := by decide +kernel
theorem dX6_takeSlices_25 : decode cX6_takeSlices 25 = .ok (.iload_n 2, 1) := by decide +kernel
theorem dX6_takeSlices_26 : decode cX6_takeSlices 26 = .ok (.invokevirtual 83, 3) := by decide +kernel
theorem dX6_takeSlices_29 : decode cX6_takeSlices 29 = .ok (.invokevirtual 87, 3) := by decide +kernel
theorem dX6_takeSlices_32 : decode cX6_takeSlices 32 = .ok (.pop, 1) := by decide +kernel
theorem dX6_takeSlices_33 : decode cX6_takeSlices 33 = .ok (.iinc 2 1, 3) := by decide +kernel
theorem dX6_takeSlices_36 : decode cX6_takeSlices 36 = .ok (.goto (-27), 3) := by decide +kernel
theorem dX6_takeSlices_39 : decode cX6_takeSlices 39 = .ok (.return_, 1) := by decide +kernel
theorem dX6_sliceOf_0 : decode cX6_sliceOf 0 = .ok (.iconst 0, 1) := by decide +kernel
theorem dX6_sliceOf_1 : decode cX6_sliceOf 1 = .ok (.istore_n 3, 1) := by decide +kernel
theorem dX6_sliceOf_2 : decode cX6_sliceOf 2 = .ok (.iconst 0, 1) := by decide +kernel
theorem dX6_sliceOf_3 : decode cX6_sliceOf 3 = .ok (.istore 4, 2) := by decide +kernel
theorem dX6_sliceOf_5 : decode cX6_sliceOf 5 = .ok (.iload 4, 2) := by decide +kernel
theorem dX6_sliceOf_7 : decode cX6_sliceOf 7 = .ok (.aload_n 1, 1) := by decide +kernel
theorem dX6_sliceOf_8 : decode cX6_sliceOf 8 = .ok (.getfield 45, 3) := by decide +kernel
theorem dX6_sliceOf_11 : decode cX6_sliceOf 11 = .ok (.iconst 0, 1) := by decide +kernel
theorem dX6_sliceOf_12 : decode cX6_sliceOf 12 = .ok (.iaload, 1) := by decide +kernel
theorem dX6_sliceOf_13 : decode cX6_sliceOf 13 = .ok (.if_icmp .ge 62, 3) := by decide +kernel
theorem dX6_sliceOf_16 : decode cX6_sliceOf 16 = .ok (.iconst 0, 1) := by decide +kernel
theorem dX6_sliceOf_17 : decode cX6_sliceOf 17 = .ok (.istore 5, 2) := by decide +kernel
theorem dX6_sliceOf_19 : decode cX6_sliceOf 19 = .ok (.iload 5, 2) := by decide +kernel
theorem dX6_sliceOf_21 : decode cX6_sliceOf 21 = .ok (.aload_n 1, 1) := by decide +kernel
theorem dX6_sliceOf_22 : decode cX6_sliceOf 22 = .ok (.getfield 45, 3) := by decide +kernel
theorem dX6_sliceOf_25 : decode cX6_sliceOf 25 = .ok (.iconst 1, 1) := by decide +kernel
theorem dX6_sliceOf_26 : decode cX6_sliceOf 26 = .ok (.iaload, 1) := by decide +kernel
theorem dX6_sliceOf_27 : decode cX6_sliceOf 27 = .ok (.if_icmp .ge 42, 3) := by decide +kernel
theorem dX6_sliceOf_30 : decode cX6_sliceOf 30 = .ok (.iload_n 3, 1) := by decide +kernel
theorem dX6_sliceOf_31 : decode cX6_sliceOf 31 = .ok (.aload_n 1, 1) := by decide +kernel
theorem dX6_sliceOf_32 : decode cX6_sliceOf 32 = .ok (.iload 4, 2) := by decide +kernel
theorem dX6_sliceOf_34 : decode cX6_sliceOf 34 = .ok (.iload 5, 2) := by decide +kernel
theorem dX6_sliceOf_36 : decode cX6_sliceOf 36 = .ok (.iload_n 2, 1) := by decide +kernel
theorem dX6_sliceOf_37 : decode cX6_sliceOf 37 = .ok (.invokevirtual 91, 3) := by decide +kernel
theorem dX6_sliceOf_40 : decode cX6_sliceOf 40 = .ok (.aload_n 0, 1) := by decide +kernel
theorem dX6_sliceOf_41 : decode cX6_sliceOf 41 = .ok (.getfield 29, 3) := by decide +kernel
theorem dX6_sliceOf_44 : decode cX6_sliceOf 44 = .ok (.getfield 95, 3) := by decide +kernel
theorem dX6_sliceOf_47 : decode cX6_sliceOf 47 = .ok (.iload 4, 2) := by decide +kernel
theorem dX6_sliceOf_49 : decode cX6_sliceOf 49 = .ok (.aload_n 1, 1) := by decide +kernel
theorem dX6_sliceOf_50 : decode cX6_sliceOf 50 = .ok (.getfield 45, 3) := by decide +kernel
theorem dX6_sliceOf_53 : decode cX6_sliceOf 53 = .ok (.iconst 1, 1) := by decide +kernel
theorem dX6_sliceOf_54 : decode cX6_sliceOf 54 = .ok (.iaload, 1) := by decide +kernel
theorem dX6_sliceOf_55 : decode cX6_sliceOf 55 = .ok (.imul, 1) := by decide +kernel
theorem dX6_sliceOf_56 : decode cX6_sliceOf 56 = .ok (.iload 5, 2) := by decide +kernel
theorem dX6_sliceOf_58 : decode cX6_sliceOf 58 = .ok (.iadd, 1) := by decide +kernel
theorem dX6_sliceOf_59 : decode cX6_sliceOf 59 = .ok (.iaload, 1) := by decide +kernel
theorem dX6_sliceOf_60 : decode cX6_sliceOf 60 = .ok (.imul, 1) := by decide +kernel
theorem dX6_sliceOf_61 : decode cX6_sliceOf 61 = .ok (.iadd, 1) := by decide +kernel
theorem dX6_sliceOf_62 : decode cX6_sliceOf 62 = .ok (.istore_n 3, 1) := by decide +kernel
theorem dX6_sliceOf_63 : decode cX6_sliceOf 63 = .ok (.iinc 5 1, 3) := by decide +kernel
theorem dX6_sliceOf_66 : decode cX6_sliceOf 66 = .ok (.goto (-47), 3) := by decide +kernel
theorem dX6_sliceOf_69 : decode cX6_sliceOf 69 = .ok (.iinc 4 1, 3) := by decide +kernel
theorem dX6_sliceOf_72 : decode cX6_sliceOf 72 = .ok (.goto (-67), 3) := by decide +kernel
theorem dX6_sliceOf_75 : decode cX6_sliceOf 75 = .ok (.iload_n 3, 1) := by decide +kernel
theorem dX6_sliceOf_76 : decode cX6_sliceOf 76 = .ok (.ireturn, 1) := by decide +kernel
theorem dX6_listPairs_0 : decode cX6_listPairs 0 = .ok (.aload_n 0, 1) := by decide +kernel
theorem dX6_listPairs_1 : decode cX6_listPairs 1 = .ok (.iconst 0, 1) := by decide +kernel
theorem dX6_listPairs_2 : decode cX6_listPairs 2 = .ok (.putfield 98, 3) := by decide +kernel
theorem dX6_listPairs_5 : decode cX6_listPairs 5 = .ok (.iconst 1, 1) := by decide +kernel
theorem dX6_listPairs_6 : decode cX6_listPairs 6 = .ok (.istore_n 3, 1) := by decide +kernel
theorem dX6_listPairs_7 : decode cX6_listPairs 7 = .ok (.iload_n 3, 1) := by decide +kernel
theorem dX6_listPairs_8 : decode cX6_listPairs 8 = .ok (.aload_n 0, 1) := by decide +kernel
theorem dX6_listPairs_9 : decode cX6_listPairs 9 = .ok (.getfield 29, 3) := by decide +kernel
theorem dX6_listPairs_12 : decode cX6_listPairs 12 = .ok (.getfield 95, 3) := by decide +kernel
theorem dX6_listPairs_15 : decode cX6_listPairs 15 = .ok (.iload_n 1, 1) := by decide +kernel
theorem dX6_listPairs_16 : decode cX6_listPairs 16 = .ok (.iaload, 1) := by decide +kernel
theorem dX6_listPairs_17 : decode cX6_listPairs 17 = .ok (.if_icmp .ge 27, 3) := by decide +kernel
theorem dX6_listPairs_20 : decode cX6_listPairs 20 = .ok (.aload_n 0, 1) := by decide +kernel
theorem dX6_listPairs_21 : decode cX6_listPairs 21 = .ok (.getfield 29, 3) := by decide +kernel
theorem dX6_listPairs_24 : decode cX6_listPairs 24 = .ok (.iload_n 3, 1) := by decide +kernel
theorem dX6_listPairs_25 : decode cX6_listPairs 25 = .ok (.invokevirtual 101, 3) := by decide +kernel
theorem dX6_listPairs_28 : decode cX6_listPairs 28 = .ok (.iconst 1, 1) := by decide +kernel
theorem dX6_listPairs_29 : decode cX6_listPairs 29 = .ok (.if_icmp .ne 9, 3) := by decide +kernel
theorem dX6_listPairs_32 : decode cX6_listPairs 32 = .ok (.aload_n 0, 1) := by decide +kernel
theorem dX6_listPairs_33 : decode cX6_listPairs 33 = .ok (.iload_n 3, 1) := by decide +kernel
theorem dX6_listPairs_34 : decode cX6_listPairs 34 = .ok (.iload_n 2, 1) := by decide +kernel
theorem dX6_listPairs_35 : decode cX6_listPairs 35 = .ok (.invokevirtual 104, 3) := by decide +kernel
theorem dX6_listPairs_38 : decode cX6_listPairs 38 = .ok (.iinc 3 1, 3) := by decide +kernel
theorem dX6_listPairs_41 : decode cX6_listPairs 41 = .ok (.goto (-34), 3) := by decide +kernel
theorem dX6_listPairs_44 : decode cX6_listPairs 44 = .ok (.return_, 1) := by decide +kernel
theorem dX6_listPairsOf_0 : decode cX6_listPairsOf 0 = .ok (.iconst 1, 1) := by decide +kernel
theorem dX6_listPairsOf_1 : decode cX6_listPairsOf 1 = .ok (.istore_n 3, 1) := by decide +kernel
theorem dX6_listPairsOf_2 : decode cX6_listPairsOf 2 = .ok (.iload_n 3, 1) := by decide +kernel
theorem dX6_listPairsOf_3 : decode cX6_listPairsOf 3 = .ok (.aload_n 0, 1) := by decide +kernel
theorem dX6_listPairsOf_4 : decode cX6_listPairsOf 4 = .ok (.getfield 29, 3) := by decide +kernel
theorem dX6_listPairsOf_7 : decode cX6_listPairsOf 7 = .ok (.getfield 95, 3) := by decide +kernel
theorem dX6_listPairsOf_10 : decode cX6_listPairsOf 10 = .ok (.iload_n 2, 1) := by decide +kernel
theorem dX6_listPairsOf_11 : decode cX6_listPairsOf 11 = .ok (.iaload, 1) := by decide +kernel
theorem dX6_listPairsOf_12 : decode cX6_listPairsOf 12 = .ok (.if_icmp .ge 106, 3) := by decide +kernel
theorem dX6_listPairsOf_15 : decode cX6_listPairsOf 15 = .ok (.aload_n 0, 1) := by decide +kernel
theorem dX6_listPairsOf_16 : decode cX6_listPairsOf 16 = .ok (.getfield 29, 3) := by decide +kernel
theorem dX6_listPairsOf_19 : decode cX6_listPairsOf 19 = .ok (.iload_n 3, 1) := by decide +kernel
theorem dX6_listPairsOf_20 : decode cX6_listPairsOf 20 = .ok (.invokevirtual 101, 3) := by decide +kernel
theorem dX6_listPairsOf_23 : decode cX6_listPairsOf 23 = .ok (.iconst 1, 1) := by decide +kernel
theorem dX6_listPairsOf_24 : decode cX6_listPairsOf 24 = .ok (.if_icmp .ne 88, 3) := by decide +kernel
theorem dX6_listPairsOf_27 : decode cX6_listPairsOf 27 = .ok (.aload_n 0, 1) := by decide +kernel
theorem dX6_listPairsOf_28 : decode cX6_listPairsOf 28 = .ok (.getfield 98, 3) := by decide +kernel
theorem dX6_listPairsOf_31 : decode cX6_listPairsOf 31 = .ok (.bipush 60, 2) := by decide +kernel
theorem dX6_listPairsOf_33 : decode cX6_listPairsOf 33 = .ok (.if_icmp .ge 79, 3) := by decide +kernel
theorem dX6_listPairsOf_36 : decode cX6_listPairsOf 36 = .ok (.aload_n 0, 1) := by decide +kernel
theorem dX6_listPairsOf_37 : decode cX6_listPairsOf 37 = .ok (.getfield 9, 3) := by decide +kernel
theorem dX6_listPairsOf_40 : decode cX6_listPairsOf 40 = .ok (.aload_n 0, 1) := by decide +kernel
theorem dX6_listPairsOf_41 : decode cX6_listPairsOf 41 = .ok (.getfield 98, 3) := by decide +kernel
theorem dX6_listPairsOf_44 : decode cX6_listPairsOf 44 = .ok (.iload_n 1, 1) := by decide +kernel
theorem dX6_listPairsOf_45 : decode cX6_listPairsOf 45 = .ok (.iastore, 1) := by decide +kernel
theorem dX6_listPairsOf_46 : decode cX6_listPairsOf 46 = .ok (.aload_n 0, 1) := by decide +kernel
theorem dX6_listPairsOf_47 : decode cX6_listPairsOf 47 = .ok (.getfield 15, 3) := by decide +kernel
theorem dX6_listPairsOf_50 : decode cX6_listPairsOf 50 = .ok (.aload_n 0, 1) := by decide +kernel
theorem dX6_listPairsOf_51 : decode cX6_listPairsOf 51 = .ok (.getfield 98, 3) := by decide +kernel
theorem dX6_listPairsOf_54 : decode cX6_listPairsOf 54 = .ok (.iload_n 3, 1) := by decide +kernel
theorem dX6_listPairsOf_55 : decode cX6_listPairsOf 55 = .ok (.iastore, 1) := by decide +kernel
theorem dX6_listPairsOf_56 : decode cX6_listPairsOf 56 = .ok (.aload_n 0, 1) := by decide +kernel
theorem dX6_listPairsOf_57 : decode cX6_listPairsOf 57 = .ok (.getfield 18, 3) := by decide +kernel
theorem dX6_listPairsOf_60 : decode cX6_listPairsOf 60 = .ok (.aload_n 0, 1) := by decide +kernel
theorem dX6_listPairsOf_61 : decode cX6_listPairsOf 61 = .ok (.getfield 98, 3) := by decide +kernel
theorem dX6_listPairsOf_64 : decode cX6_listPairsOf 64 = .ok (.aload_n 0, 1) := by decide +kernel
theorem dX6_listPairsOf_65 : decode cX6_listPairsOf 65 = .ok (.getfield 29, 3) := by decide +kernel
theorem dX6_listPairsOf_68 : decode cX6_listPairsOf 68 = .ok (.iload_n 1, 1) := by decide +kernel
theorem dX6_listPairsOf_69 : decode cX6_listPairsOf 69 = .ok (.iload_n 3, 1) := by decide +kernel
theorem dX6_listPairsOf_70 : decode cX6_listPairsOf 70 = .ok (.iload_n 2, 1) := by decide +kernel
theorem dX6_listPairsOf_71 : decode cX6_listPairsOf 71 = .ok (.invokevirtual 107, 3) := by decide +kernel
theorem dX6_listPairsOf_74 : decode cX6_listPairsOf 74 = .ok (.iastore, 1) := by decide +kernel
theorem dX6_listPairsOf_75 : decode cX6_listPairsOf 75 = .ok (.aload_n 0, 1) := by decide +kernel
theorem dX6_listPairsOf_76 : decode cX6_listPairsOf 76 = .ok (.getfield 23, 3) := by decide +kernel
theorem dX6_listPairsOf_79 : decode cX6_listPairsOf 79 = .ok (.iconst 0, 1) := by decide +kernel
theorem dX6_listPairsOf_80 : decode cX6_listPairsOf 80 = .ok (.aaload, 1) := by decide +kernel
theorem dX6_listPairsOf_81 : decode cX6_listPairsOf 81 = .ok (.aload_n 0, 1) := by decide +kernel
theorem dX6_listPairsOf_82 : decode cX6_listPairsOf 82 = .ok (.getfield 98, 3) := by decide +kernel
theorem dX6_listPairsOf_85 : decode cX6_listPairsOf 85 = .ok (.aload_n 0, 1) := by decide +kernel
theorem dX6_listPairsOf_86 : decode cX6_listPairsOf 86 = .ok (.getfield 38, 3) := by decide +kernel
theorem dX6_listPairsOf_89 : decode cX6_listPairsOf 89 = .ok (.aload_n 0, 1) := by decide +kernel
theorem dX6_listPairsOf_90 : decode cX6_listPairsOf 90 = .ok (.getfield 18, 3) := by decide +kernel
theorem dX6_listPairsOf_93 : decode cX6_listPairsOf 93 = .ok (.aload_n 0, 1) := by decide +kernel
theorem dX6_listPairsOf_94 : decode cX6_listPairsOf 94 = .ok (.getfield 98, 3) := by decide +kernel
theorem dX6_listPairsOf_97 : decode cX6_listPairsOf 97 = .ok (.iaload, 1) := by decide +kernel
theorem dX6_listPairsOf_98 : decode cX6_listPairsOf 98 = .ok (.invokevirtual 110, 3) := by decide +kernel
theorem dX6_listPairsOf_101 : decode cX6_listPairsOf 101 = .ok (.iastore, 1) := by decide +kernel
theorem dX6_listPairsOf_102 : decode cX6_listPairsOf 102 = .ok (.aload_n 0, 1) := by decide +kernel
theorem dX6_listPairsOf_103 : decode cX6_listPairsOf 103 = .ok (.dup, 1) := by decide +kernel
theorem dX6_listPairsOf_104 : decode cX6_listPairsOf 104 = .ok (.getfield 98, 3) := by decide +kernel
theorem dX6_listPairsOf_107 : decode cX6_listPairsOf 107 = .ok (.iconst 1, 1) := by decide +kernel
theorem dX6_listPairsOf_108 : decode cX6_listPairsOf 108 = .ok (.iadd, 1) := by decide +kernel
theorem dX6_listPairsOf_109 : decode cX6_listPairsOf 109 = .ok (.putfield 98, 3) := by decide +kernel
theorem dX6_listPairsOf_112 : decode cX6_listPairsOf 112 = .ok (.iinc 3 1, 3) := by decide +kernel
theorem dX6_listPairsOf_115 : decode cX6_listPairsOf 115 = .ok (.goto (-113), 3) := by decide +kernel
theorem dX6_listPairsOf_118 : decode cX6_listPairsOf 118 = .ok (.return_, 1) := by decide +kernel
theorem dX6_pickFrom_0 : decode cX6_pickFrom 0 = .ok (.iload_n 1, 1) := by decide +kernel
theorem dX6_pickFrom_1 : decode cX6_pickFrom 1 = .ok (.aload_n 0, 1) := by decide +kernel
theorem dX6_pickFrom_2 : decode cX6_pickFrom 2 = .ok (.getfield 70, 3) := by decide +kernel
theorem dX6_pickFrom_5 : decode cX6_pickFrom 5 = .ok (.if_icmp .ge 8, 3) := by decide +kernel
theorem dX6_pickFrom_8 : decode cX6_pickFrom 8 = .ok (.iload_n 1, 1) := by decide +kernel
theorem dX6_pickFrom_9 : decode cX6_pickFrom 9 = .ok (.iconst 4, 1) := by decide +kernel
theorem dX6_pickFrom_10 : decode cX6_pickFrom 10 = .ok (.if_icmp .lt 5, 3) := by decide +kernel
theorem dX6_pickFrom_13 : decode cX6_pickFrom 13 = .ok (.iconst 1, 1) := by decide +kernel
theorem dX6_pickFrom_14 : decode cX6_pickFrom 14 = .ok (.ireturn, 1) := by decide +kernel
theorem dX6_pickFrom_15 : decode cX6_pickFrom 15 = .ok (.iload_n 2, 1) := by decide +kernel
theorem dX6_pickFrom_16 : decode cX6_pickFrom 16 = .ok (.istore 4, 2) := by decide +kernel
theorem dX6_pickFrom_18 : decode cX6_pickFrom 18 = .ok (.iload 4, 2) := by decide +kernel
theorem dX6_pickFrom_20 : decode cX6_pickFrom 20 = .ok (.aload_n 0, 1) := by decide +kernel
theorem dX6_pickFrom_21 : decode cX6_pickFrom 21 = .ok (.getfield 98, 3) := by decide +kernel
theorem dX6_pickFrom_24 : decode cX6_pickFrom 24 = .ok (.if_icmp .ge 116, 3) := by decide +kernel
theorem dX6_pickFrom_27 : decode cX6_pickFrom 27 = .ok (.aload_n 0, 1) := by decide +kernel
theorem dX6_pickFrom_28 : decode cX6_pickFrom 28 = .ok (.getfield 23, 3) := by decide +kernel
theorem dX6_pickFrom_31 : decode cX6_pickFrom 31 = .ok (.iload_n 3, 1) := by decide +kernel
theorem dX6_pickFrom_32 : decode cX6_pickFrom 32 = .ok (.aaload, 1) := by decide +kernel
theorem dX6_pickFrom_33 : decode cX6_pickFrom 33 = .ok (.iload 4, 2) := by decide +kernel
theorem dX6_pickFrom_35 : decode cX6_pickFrom 35 = .ok (.iaload, 1) := by decide +kernel
theorem dX6_pickFrom_36 : decode cX6_pickFrom 36 = .ok (.ifCond .eq 7, 3) := by decide +kernel
theorem dX6_pickFrom_39 : decode cX6_pickFrom 39 = .ok (.iconst 1, 1) := by decide +kernel
theorem dX6_pickFrom_40 : decode cX6_pickFrom 40 = .ok (.goto 4, 3) := by decide +kernel
theorem dX6_pickFrom_43 : decode cX6_pickFrom 43 = .ok (.iconst 0, 1) := by decide +kernel
theorem dX6_pickFrom_44 : decode cX6_pickFrom 44 = .ok (.istore 5, 2) := by decide +kernel
theorem dX6_pickFrom_46 : decode cX6_pickFrom 46 = .ok (.iload 5, 2) := by decide +kernel
theorem dX6_pickFrom_48 : decode cX6_pickFrom 48 = .ok (.ifCond .eq 11, 3) := by decide +kernel
theorem dX6_pickFrom_51 : decode cX6_pickFrom 51 = .ok (.iload_n 3, 1) := by decide +kernel
theorem dX6_pickFrom_52 : decode cX6_pickFrom 52 = .ok (.aload_n 0, 1) := by decide +kernel
theorem dX6_pickFrom_53 : decode cX6_pickFrom 53 = .ok (.getfield 73, 3) := by decide +kernel
theorem dX6_pickFrom_56 : decode cX6_pickFrom 56 = .ok (.if_icmp .ge 78, 3) := by decide +kernel
theorem dX6_pickFrom_59 : decode cX6_pickFrom 59 = .ok (.aload_n 0, 1) := by decide +kernel
theorem dX6_pickFrom_60 : decode cX6_pickFrom 60 = .ok (.getfield 42, 3) := by decide +kernel
theorem dX6_pickFrom_63 : decode cX6_pickFrom 63 = .ok (.aload_n 0, 1) := by decide +kernel
theorem dX6_pickFrom_64 : decode cX6_pickFrom 64 = .ok (.getfield 18, 3) := by decide +kernel
theorem dX6_pickFrom_67 : decode cX6_pickFrom 67 = .ok (.iload 4, 2) := by decide +kernel
theorem dX6_pickFrom_69 : decode cX6_pickFrom 69 = .ok (.iaload, 1) := by decide +kernel
theorem dX6_pickFrom_70 : decode cX6_pickFrom 70 = .ok (.invokevirtual 87, 3) := by decide +kernel
theorem dX6_pickFrom_73 : decode cX6_pickFrom 73 = .ok (.ifCond .ne 6, 3) := by decide +kernel
theorem dX6_pickFrom_76 : decode cX6_pickFrom 76 = .ok (.goto 58, 3) := by decide +kernel
theorem dX6_pickFrom_79 : decode cX6_pickFrom 79 = .ok (.aload_n 0, 1) := by decide +kernel
theorem dX6_pickFrom_80 : decode cX6_pickFrom 80 = .ok (.getfield 26, 3) := by decide +kernel
theorem dX6_pickFrom_83 : decode cX6_pickFrom 83 = .ok (.iload_n 1, 1) := by decide +kernel
theorem dX6_pickFrom_84 : decode cX6_pickFrom 84 = .ok (.iload 4, 2) := by decide +kernel
theorem dX6_pickFrom_86 : decode cX6_pickFrom 86 = .ok (.iastore, 1) := by decide +kernel
theorem dX6_pickFrom_87 : decode cX6_pickFrom 87 = .ok (.iload 5, 2) := by decide +kernel
theorem dX6_pickFrom_89 : decode cX6_pickFrom 89 = .ok (.ifCond .eq 10, 3) := by decide +kernel
theorem dX6_pickFrom_92 : decode cX6_pickFrom 92 = .ok (.aload_n 0, 1) := by decide +kernel
theorem dX6_pickFrom_93 : decode cX6_pickFrom 93 = .ok (.iload_n 3, 1) := by decide +kernel
theorem dX6_pickFrom_94 : decode cX6_pickFrom 94 = .ok (.iload 4, 2) := by decide +kernel
theorem dX6_pickFrom_96 : decode cX6_pickFrom 96 = .ok (.invokevirtual 113, 3) := by decide +kernel
theorem dX6_pickFrom_99 : decode cX6_pickFrom 99 = .ok (.aload_n 0, 1) := by decide +kernel
theorem dX6_pickFrom_100 : decode cX6_pickFrom 100 = .ok (.iload_n 1, 1) := by decide +kernel
theorem dX6_pickFrom_101 : decode cX6_pickFrom 101 = .ok (.iconst 1, 1) := by decide +kernel
theorem dX6_pickFrom_102 : decode cX6_pickFrom 102 = .ok (.iadd, 1) := by decide +kernel
theorem dX6_pickFrom_103 : decode cX6_pickFrom 103 = .ok (.iload 4, 2) := by decide +kernel
theorem dX6_pickFrom_105 : decode cX6_pickFrom 105 = .ok (.iconst 1, 1) := by decide +kernel
theorem dX6_pickFrom_106 : decode cX6_pickFrom 106 = .ok (.iadd, 1) := by decide +kernel
theorem dX6_pickFrom_107 : decode cX6_pickFrom 107 = .ok (.iload 5, 2) := by decide +kernel
theorem dX6_pickFrom_109 : decode cX6_pickFrom 109 = .ok (.ifCond .eq 9, 3) := by decide +kernel
theorem dX6_pickFrom_112 : decode cX6_pickFrom 112 = .ok (.iload_n 3, 1) := by decide +kernel
theorem dX6_pickFrom_113 : decode cX6_pickFrom 113 = .ok (.iconst 1, 1) := by decide +kernel
theorem dX6_pickFrom_114 : decode cX6_pickFrom 114 = .ok (.iadd, 1) := by decide +kernel
theorem dX6_pickFrom_115 : decode cX6_pickFrom 115 = .ok (.goto 4, 3) := by decide +kernel
theorem dX6_pickFrom_118 : decode cX6_pickFrom 118 = .ok (.iload_n 3, 1) := by decide +kernel
theorem dX6_pickFrom_119 : decode cX6_pickFrom 119 = .ok (.invokevirtual 79, 3) := by decide +kernel
theorem dX6_pickFrom_122 : decode cX6_pickFrom 122 = .ok (.ifCond .eq 5, 3) := by decide +kernel
theorem dX6_pickFrom_125 : decode cX6_pickFrom 125 = .ok (.iconst 1, 1) := by decide +kernel
theorem dX6_pickFrom_126 : decode cX6_pickFrom 126 = .ok (.ireturn, 1) := by decide +kernel
theorem dX6_pickFrom_127 : decode cX6_pickFrom 127 = .ok (.aload_n 0, 1) := by decide +kernel
theorem dX6_pickFrom_128 : decode cX6_pickFrom 128 = .ok (.getfield 42, 3) := by decide +kernel
theorem dX6_pickFrom_131 : decode cX6_pickFrom 131 = .ok (.invokevirtual 116, 3) := by decide +kernel
theorem dX6_pickFrom_134 : decode cX6_pickFrom 134 = .ok (.iinc 4 1, 3) := by decide +kernel
theorem dX6_pickFrom_137 : decode cX6_pickFrom 137 = .ok (.goto (-119), 3) := by decide +kernel
theorem dX6_pickFrom_140 : decode cX6_pickFrom 140 = .ok (.iconst 0, 1) := by decide +kernel
theorem dX6_pickFrom_141 : decode cX6_pickFrom 141 = .ok (.ireturn, 1) := by decide +kernel
theorem dX6_meet_0 : decode cX6_meet 0 = .ok (.aload_n 0, 1) := by decide +kernel
theorem dX6_meet_1 : decode cX6_meet 1 = .ok (.getfield 29, 3) := by decide +kernel
theorem dX6_meet_4 : decode cX6_meet 4 = .ok (.aload_n 0, 1) := by decide +kernel
theorem dX6_meet_5 : decode cX6_meet 5 = .ok (.getfield 23, 3) := by decide +kernel
theorem dX6_meet_8 : decode cX6_meet 8 = .ok (.iload_n 1, 1) := by decide +kernel
theorem dX6_meet_9 : decode cX6_meet 9 = .ok (.aaload, 1) := by decide +kernel
theorem dX6_meet_10 : decode cX6_meet 10 = .ok (.iload_n 2, 1) := by decide +kernel
theorem dX6_meet_11 : decode cX6_meet 11 = .ok (.iaload, 1) := by decide +kernel
theorem dX6_meet_12 : decode cX6_meet 12 = .ok (.invokevirtual 119, 3) := by decide +kernel
theorem dX6_meet_15 : decode cX6_meet 15 = .ok (.istore_n 3, 1) := by decide +kernel
theorem dX6_meet_16 : decode cX6_meet 16 = .ok (.aload_n 0, 1) := by decide +kernel
theorem dX6_meet_17 : decode cX6_meet 17 = .ok (.getfield 29, 3) := by decide +kernel
theorem dX6_meet_20 : decode cX6_meet 20 = .ok (.iload_n 3, 1) := by decide +kernel
theorem dX6_meet_21 : decode cX6_meet 21 = .ok (.invokevirtual 122, 3) := by decide +kernel
theorem dX6_meet_24 : decode cX6_meet 24 = .ok (.istore 4, 2) := by decide +kernel
theorem dX6_meet_26 : decode cX6_meet 26 = .ok (.iload_n 2, 1) := by decide +kernel
theorem dX6_meet_27 : decode cX6_meet 27 = .ok (.iconst 1, 1) := by decide +kernel
theorem dX6_meet_28 : decode cX6_meet 28 = .ok (.iadd, 1) := by decide +kernel
theorem dX6_meet_29 : decode cX6_meet 29 = .ok (.istore 5, 2) := by decide +kernel
theorem dX6_meet_31 : decode cX6_meet 31 = .ok (.iload 5, 2) := by decide +kernel
theorem dX6_meet_33 : decode cX6_meet 33 = .ok (.aload_n 0, 1) := by decide +kernel
theorem dX6_meet_34 : decode cX6_meet 34 = .ok (.getfield 98, 3) := by decide +kernel
theorem dX6_meet_37 : decode cX6_meet 37 = .ok (.if_icmp .ge 52, 3) := by decide +kernel
theorem dX6_meet_40 : decode cX6_meet 40 = .ok (.aload_n 0, 1) := by decide +kernel
theorem dX6_meet_41 : decode cX6_meet 41 = .ok (.getfield 23, 3) := by decide +kernel
theorem dX6_meet_44 : decode cX6_meet 44 = .ok (.iload_n 1, 1) := by decide +kernel
theorem dX6_meet_45 : decode cX6_meet 45 = .ok (.aaload, 1) := by decide +kernel
theorem dX6_meet_46 : decode cX6_meet 46 = .ok (.iload 5, 2) := by decide +kernel
theorem dX6_meet_48 : decode cX6_meet 48 = .ok (.iaload, 1) := by decide +kernel
theorem dX6_meet_49 : decode cX6_meet 49 = .ok (.istore 6, 2) := by decide +kernel
theorem dX6_meet_51 : decode cX6_meet 51 = .ok (.aload_n 0, 1) := by decide +kernel
theorem dX6_meet_52 : decode cX6_meet 52 = .ok (.getfield 23, 3) := by decide +kernel
theorem dX6_meet_55 : decode cX6_meet 55 = .ok (.iload_n 1, 1) := by decide +kernel
theorem dX6_meet_56 : decode cX6_meet 56 = .ok (.iconst 1, 1) := by decide +kernel
theorem dX6_meet_57 : decode cX6_meet 57 = .ok (.iadd, 1) := by decide +kernel
theorem dX6_meet_58 : decode cX6_meet 58 = .ok (.aaload, 1) := by decide +kernel
theorem dX6_meet_59 : decode cX6_meet 59 = .ok (.iload 5, 2) := by decide +kernel
theorem dX6_meet_61 : decode cX6_meet 61 = .ok (.aload_n 0, 1) := by decide +kernel
theorem dX6_meet_62 : decode cX6_meet 62 = .ok (.getfield 29, 3) := by decide +kernel
theorem dX6_meet_65 : decode cX6_meet 65 = .ok (.iload 6, 2) := by decide +kernel
theorem dX6_meet_67 : decode cX6_meet 67 = .ok (.aload_n 0, 1) := by decide +kernel
theorem dX6_meet_68 : decode cX6_meet 68 = .ok (.getfield 29, 3) := by decide +kernel
theorem dX6_meet_71 : decode cX6_meet 71 = .ok (.iload 6, 2) := by decide +kernel
theorem dX6_meet_73 : decode cX6_meet 73 = .ok (.iload 4, 2) := by decide +kernel
theorem dX6_meet_75 : decode cX6_meet 75 = .ok (.invokevirtual 125, 3) := by decide +kernel
theorem dX6_meet_78 : decode cX6_meet 78 = .ok (.iload_n 3, 1) := by decide +kernel
theorem dX6_meet_79 : decode cX6_meet 79 = .ok (.invokevirtual 128, 3) := by decide +kernel
theorem dX6_meet_82 : decode cX6_meet 82 = .ok (.iastore, 1) := by decide +kernel
theorem dX6_meet_83 : decode cX6_meet 83 = .ok (.iinc 5 1, 3) := by decide +kernel
theorem dX6_meet_86 : decode cX6_meet 86 = .ok (.goto (-55), 3) := by decide +kernel
theorem dX6_meet_89 : decode cX6_meet 89 = .ok (.return_, 1) := by decide +kernel
theorem dX6_writeScheme_0 : decode cX6_writeScheme 0 = .ok (.aload_n 1, 1) := by decide +kernel
theorem dX6_writeScheme_1 : decode cX6_writeScheme 1 = .ok (.iconst 0, 1) := by decide +kernel
theorem dX6_writeScheme_2 : decode cX6_writeScheme 2 = .ok (.putfield 131, 3) := by decide +kernel
theorem dX6_writeScheme_5 : decode cX6_writeScheme 5 = .ok (.iconst 0, 1) := by decide +kernel
theorem dX6_writeScheme_6 : decode cX6_writeScheme 6 = .ok (.istore_n 3, 1) := by decide +kernel
theorem dX6_writeScheme_7 : decode cX6_writeScheme 7 = .ok (.iload_n 3, 1) := by decide +kernel
theorem dX6_writeScheme_8 : decode cX6_writeScheme 8 = .ok (.iload_n 2, 1) := by decide +kernel
theorem dX6_writeScheme_9 : decode cX6_writeScheme 9 = .ok (.if_icmp .ge 36, 3) := by decide +kernel
theorem dX6_writeScheme_12 : decode cX6_writeScheme 12 = .ok (.aload_n 1, 1) := by decide +kernel
theorem dX6_writeScheme_13 : decode cX6_writeScheme 13 = .ok (.aload_n 0, 1) := by decide +kernel
theorem dX6_writeScheme_14 : decode cX6_writeScheme 14 = .ok (.getfield 9, 3) := by decide +kernel
theorem dX6_writeScheme_17 : decode cX6_writeScheme 17 = .ok (.aload_n 0, 1) := by decide +kernel
theorem dX6_writeScheme_18 : decode cX6_writeScheme 18 = .ok (.getfield 26, 3) := by decide +kernel
theorem dX6_writeScheme_21 : decode cX6_writeScheme 21 = .ok (.iload_n 3, 1) := by decide +kernel
theorem dX6_writeScheme_22 : decode cX6_writeScheme 22 = .ok (.iaload, 1) := by decide +kernel
theorem dX6_writeScheme_23 : decode cX6_writeScheme 23 = .ok (.iaload, 1) := by decide +kernel
theorem dX6_writeScheme_24 : decode cX6_writeScheme 24 = .ok (.aload_n 0, 1) := by decide +kernel
theorem dX6_writeScheme_25 : decode cX6_writeScheme 25 = .ok (.getfield 15, 3) := by decide +kernel
theorem dX6_writeScheme_28 : decode cX6_writeScheme 28 = .ok (.aload_n 0, 1) := by decide +kernel
theorem dX6_writeScheme_29 : decode cX6_writeScheme 29 = .ok (.getfield 26, 3) := by decide +kernel
theorem dX6_writeScheme_32 : decode cX6_writeScheme 32 = .ok (.iload_n 3, 1) := by decide +kernel
theorem dX6_writeScheme_33 : decode cX6_writeScheme 33 = .ok (.iaload, 1) := by decide +kernel
theorem dX6_writeScheme_34 : decode cX6_writeScheme 34 = .ok (.iaload, 1) := by decide +kernel
theorem dX6_writeScheme_35 : decode cX6_writeScheme 35 = .ok (.iconst 0, 1) := by decide +kernel
theorem dX6_writeScheme_36 : decode cX6_writeScheme 36 = .ok (.invokevirtual 134, 3) := by decide +kernel
theorem dX6_writeScheme_39 : decode cX6_writeScheme 39 = .ok (.iinc 3 1, 3) := by decide +kernel
theorem dX6_writeScheme_42 : decode cX6_writeScheme 42 = .ok (.goto (-35), 3) := by decide +kernel
theorem dX6_writeScheme_45 : decode cX6_writeScheme 45 = .ok (.iconst 0, 1) := by decide +kernel
theorem dX6_writeScheme_46 : decode cX6_writeScheme 46 = .ok (.istore_n 3, 1) := by decide +kernel
theorem dX6_writeScheme_47 : decode cX6_writeScheme 47 = .ok (.iload_n 3, 1) := by decide +kernel
theorem dX6_writeScheme_48 : decode cX6_writeScheme 48 = .ok (.aload_n 1, 1) := by decide +kernel
theorem dX6_writeScheme_49 : decode cX6_writeScheme 49 = .ok (.getfield 45, 3) := by decide +kernel
theorem dX6_writeScheme_52 : decode cX6_writeScheme 52 = .ok (.iconst 2, 1) := by decide +kernel
theorem dX6_writeScheme_53 : decode cX6_writeScheme 53 = .ok (.iaload, 1) := by decide +kernel
theorem dX6_writeScheme_54 : decode cX6_writeScheme 54 = .ok (.if_icmp .ge 76, 3) := by decide +kernel
theorem dX6_writeScheme_57 : decode cX6_writeScheme 57 = .ok (.aload_n 0, 1) := by decide +kernel
theorem dX6_writeScheme_58 : decode cX6_writeScheme 58 = .ok (.getfield 42, 3) := by decide +kernel
theorem dX6_writeScheme_61 : decode cX6_writeScheme 61 = .ok (.aload_n 0, 1) := by decide +kernel
theorem dX6_writeScheme_62 : decode cX6_writeScheme 62 = .ok (.aload_n 1, 1) := by decide +kernel
theorem dX6_writeScheme_63 : decode cX6_writeScheme 63 = .ok (.iload_n 3, 1) := by decide +kernel
theorem dX6_writeScheme_64 : decode cX6_writeScheme 64 = .ok (.invokevirtual 83, 3) := by decide +kernel
theorem dX6_writeScheme_67 : decode cX6_writeScheme 67 = .ok (.invokevirtual 138, 3) := by decide +kernel
theorem dX6_writeScheme_70 : decode cX6_writeScheme 70 = .ok (.istore 4, 2) := by decide +kernel
theorem dX6_writeScheme_72 : decode cX6_writeScheme 72 = .ok (.iconst 0, 1) := by decide +kernel
theorem dX6_writeScheme_73 : decode cX6_writeScheme 73 = .ok (.istore 5, 2) := by decide +kernel
theorem dX6_writeScheme_75 : decode cX6_writeScheme 75 = .ok (.iload 5, 2) := by decide +kernel
theorem dX6_writeScheme_77 : decode cX6_writeScheme 77 = .ok (.iload_n 2, 1) := by decide +kernel
theorem dX6_writeScheme_78 : decode cX6_writeScheme 78 = .ok (.if_icmp .ge 46, 3) := by decide +kernel
theorem dX6_writeScheme_81 : decode cX6_writeScheme 81 = .ok (.aload_n 0, 1) := by decide +kernel
theorem dX6_writeScheme_82 : decode cX6_writeScheme 82 = .ok (.getfield 29, 3) := by decide +kernel
theorem dX6_writeScheme_85 : decode cX6_writeScheme 85 = .ok (.aload_n 1, 1) := by decide +kernel
theorem dX6_writeScheme_86 : decode cX6_writeScheme 86 = .ok (.iconst 2, 1) := by decide +kernel
theorem dX6_writeScheme_87 : decode cX6_writeScheme 87 = .ok (.iload 5, 2) := by decide +kernel
theorem dX6_writeScheme_89 : decode cX6_writeScheme 89 = .ok (.invokevirtual 141, 3) := by decide +kernel
theorem dX6_writeScheme_92 : decode cX6_writeScheme 92 = .ok (.iload_n 3, 1) := by decide +kernel
theorem dX6_writeScheme_93 : decode cX6_writeScheme 93 = .ok (.aload_n 0, 1) := by decide +kernel
theorem dX6_writeScheme_94 : decode cX6_writeScheme 94 = .ok (.getfield 29, 3) := by decide +kernel
theorem dX6_writeScheme_97 : decode cX6_writeScheme 97 = .ok (.iload 4, 2) := by decide +kernel
theorem dX6_writeScheme_99 : decode cX6_writeScheme 99 = .ok (.iload 5, 2) := by decide +kernel
theorem dX6_writeScheme_101 : decode cX6_writeScheme 101 = .ok (.invokevirtual 125, 3) := by decide +kernel
theorem dX6_writeScheme_104 : decode cX6_writeScheme 104 = .ok (.invokevirtual 144, 3) := by decide +kernel
theorem dX6_writeScheme_107 : decode cX6_writeScheme 107 = .ok (.istore 6, 2) := by decide +kernel
theorem dX6_writeScheme_109 : decode cX6_writeScheme 109 = .ok (.aload_n 1, 1) := by decide +kernel
theorem dX6_writeScheme_110 : decode cX6_writeScheme 110 = .ok (.iconst 2, 1) := by decide +kernel
theorem dX6_writeScheme_111 : decode cX6_writeScheme 111 = .ok (.iload 5, 2) := by decide +kernel
theorem dX6_writeScheme_113 : decode cX6_writeScheme 113 = .ok (.iload 6, 2) := by decide +kernel
theorem dX6_writeScheme_115 : decode cX6_writeScheme 115 = .ok (.invokevirtual 147, 3) := by decide +kernel
theorem dX6_writeScheme_118 : decode cX6_writeScheme 118 = .ok (.iinc 5 1, 3) := by decide +kernel
theorem dX6_writeScheme_121 : decode cX6_writeScheme 121 = .ok (.goto (-46), 3) := by decide +kernel
theorem dX6_writeScheme_124 : decode cX6_writeScheme 124 = .ok (.iinc 3 1, 3) := by decide +kernel
theorem dX6_writeScheme_127 : decode cX6_writeScheme 127 = .ok (.goto (-80), 3) := by decide +kernel
theorem dX6_writeScheme_130 : decode cX6_writeScheme 130 = .ok (.return_, 1) := by decide +kernel
end
section
theorem dX7_init_0 : decode cX7_init 0 = .ok (.aload_n 0, 1) := by decide +kernel
theorem dX7_init_1 : decode cX7_init 1 = .ok (.invokespecial 3, 3) := by decide +kernel
theorem dX7_init_4 : decode cX7_init 4 = .ok (.aload_n 0, 1) := by decide +kernel
theorem dX7_init_5 : decode cX7_init 5 = .ok (.sipush 360, 3) := by decide +kernel
theorem dX7_init_8 : decode cX7_init 8 = .ok (.newarray .int, 2) := by decide +kernel
theorem dX7_init_10 : decode cX7_init 10 = .ok (.putfield 9, 3) := by decide +kernel
theorem dX7_init_13 : decode cX7_init 13 = .ok (.aload_n 0, 1) := by decide +kernel
theorem dX7_init_14 : decode cX7_init 14 = .ok (.sipush 360, 3) := by decide +kernel
theorem dX7_init_17 : decode cX7_init 17 = .ok (.newarray .int, 2) := by decide +kernel
theorem dX7_init_19 : decode cX7_init 19 = .ok (.putfield 15, 3) := by decide +kernel
theorem dX7_init_22 : decode cX7_init 22 = .ok (.aload_n 0, 1) := by decide +kernel
theorem dX7_init_23 : decode cX7_init 23 = .ok (.bipush 40, 2) := by decide +kernel
theorem dX7_init_25 : decode cX7_init 25 = .ok (.newarray .int, 2) := by decide +kernel
theorem dX7_init_27 : decode cX7_init 27 = .ok (.putfield 18, 3) := by decide +kernel
theorem dX7_init_30 : decode cX7_init 30 = .ok (.aload_n 0, 1) := by decide +kernel
theorem dX7_init_31 : decode cX7_init 31 = .ok (.sipush 343, 3) := by decide +kernel
theorem dX7_init_34 : decode cX7_init 34 = .ok (.newarray .int, 2) := by decide +kernel
theorem dX7_init_36 : decode cX7_init 36 = .ok (.putfield 21, 3) := by decide +kernel
theorem dX7_init_39 : decode cX7_init 39 = .ok (.aload_n 0, 1) := by decide +kernel
theorem dX7_init_40 : decode cX7_init 40 = .ok (.aload_n 1, 1) := by decide +kernel
theorem dX7_init_41 : decode cX7_init 41 = .ok (.putfield 24, 3) := by decide +kernel
theorem dX7_init_44 : decode cX7_init 44 = .ok (.return_, 1) := by decide +kernel
theorem dX7_plainSums_0 : decode cX7_plainSums 0 = .ok (.aload_n 0, 1) := by decide +kernel
theorem dX7_plainSums_1 : decode cX7_plainSums 1 = .ok (.aload_n 1, 1) := by decide +kernel
theorem dX7_plainSums_2 : decode cX7_plainSums 2 = .ok (.iload_n 2, 1) := by decide +kernel
theorem dX7_plainSums_3 : decode cX7_plainSums 3 = .ok (.invokevirtual 28, 3) := by decide +kernel
theorem dX7_plainSums_6 : decode cX7_plainSums 6 = .ok (.aload_n 0, 1) := by decide +kernel
theorem dX7_plainSums_7 : decode cX7_plainSums 7 = .ok (.invokevirtual 32, 3) := by decide +kernel
theorem dX7_plainSums_10 : decode cX7_plainSums 10 = .ok (.ireturn, 1) := by decide +kernel
theorem dX7_sharedSums_0 : decode cX7_sharedSums 0 = .ok (.aload_n 0, 1) := by decide +kernel
theorem dX7_sharedSums_1 : decode cX7_sharedSums 1 = .ok (.aload_n 1, 1) := by decide +kernel
theorem dX7_sharedSums_2 : decode cX7_sharedSums 2 = .ok (.iload_n 2, 1) := by decide +kernel
theorem dX7_sharedSums_3 : decode cX7_sharedSums 3 = .ok (.invokevirtual 28, 3) := by decide +kernel
theorem dX7_sharedSums_6 : decode cX7_sharedSums 6 = .ok (.iconst 0, 1) := by decide +kernel
theorem dX7_sharedSums_7 : decode cX7_sharedSums 7 = .ok (.istore_n 3, 1) := by decide +kernel
theorem dX7_sharedSums_8 : decode cX7_sharedSums 8 = .ok (.iload_n 3, 1) := by decide +kernel
theorem dX7_sharedSums_9 : decode cX7_sharedSums 9 = .ok (.bipush 40, 2) := by decide +kernel
theorem dX7_sharedSums_11 : decode cX7_sharedSums 11 = .ok (.if_icmp .ge 20, 3) := by decide +kernel
theorem dX7_sharedSums_14 : decode cX7_sharedSums 14 = .ok (.aload_n 0, 1) := by decide +kernel
theorem dX7_sharedSums_15 : decode cX7_sharedSums 15 = .ok (.invokevirtual 36, 3) := by decide +kernel
theorem dX7_sharedSums_18 : decode cX7_sharedSums 18 = .ok (.ifCond .eq 13, 3) := by decide +kernel
theorem dX7_sharedSums_21 : decode cX7_sharedSums 21 = .ok (.aload_n 0, 1) := by decide +kernel
theorem dX7_sharedSums_22 : decode cX7_sharedSums 22 = .ok (.invokevirtual 40, 3) := by decide +kernel
theorem dX7_sharedSums_25 : decode cX7_sharedSums 25 = .ok (.iinc 3 1, 3) := by decide +kernel
theorem dX7_sharedSums_28 : decode cX7_sharedSums 28 = .ok (.goto (-20), 3) := by decide +kernel
theorem dX7_sharedSums_31 : decode cX7_sharedSums 31 = .ok (.iload_n 3, 1) := by decide +kernel
theorem dX7_sharedSums_32 : decode cX7_sharedSums 32 = .ok (.aload_n 0, 1) := by decide +kernel
theorem dX7_sharedSums_33 : decode cX7_sharedSums 33 = .ok (.invokevirtual 32, 3) := by decide +kernel
theorem dX7_sharedSums_36 : decode cX7_sharedSums 36 = .ok (.iadd, 1) := by decide +kernel
theorem dX7_sharedSums_37 : decode cX7_sharedSums 37 = .ok (.ireturn, 1) := by decide +kernel
theorem dX7_load_0 : decode cX7_load 0 = .ok (.aload_n 0, 1) := by decide +kernel
theorem dX7_load_1 : decode cX7_load 1 = .ok (.aload_n 1, 1) := by decide +kernel
theorem dX7_load_2 : decode cX7_load 2 = .ok (.getfield 43, 3) := by decide +kernel
theorem dX7_load_5 : decode cX7_load 5 = .ok (.putfield 49, 3) := by decide +kernel
theorem dX7_load_8 : decode cX7_load 8 = .ok (.aload_n 0, 1) := by decide +kernel
theorem dX7_load_9 : decode cX7_load 9 = .ok (.aload_n 1, 1) := by decide +kernel
theorem dX7_load_10 : decode cX7_load 10 = .ok (.getfield 52, 3) := by decide +kernel
theorem dX7_load_13 : decode cX7_load 13 = .ok (.iload_n 2, 1) := by decide +kernel
theorem dX7_load_14 : decode cX7_load 14 = .ok (.iaload, 1) := by decide +kernel
theorem dX7_load_15 : decode cX7_load 15 = .ok (.putfield 55, 3) := by decide +kernel
theorem dX7_load_18 : decode cX7_load 18 = .ok (.iconst 0, 1) := by decide +kernel
theorem dX7_load_19 : decode cX7_load 19 = .ok (.istore_n 3, 1) := by decide +kernel
theorem dX7_load_20 : decode cX7_load 20 = .ok (.iload_n 3, 1) := by decide +kernel
theorem dX7_load_21 : decode cX7_load 21 = .ok (.aload_n 0, 1) := by decide +kernel
theorem dX7_load_22 : decode cX7_load 22 = .ok (.getfield 49, 3) := by decide +kernel
theorem dX7_load_25 : decode cX7_load 25 = .ok (.if_icmp .ge 65, 3) := by decide +kernel
theorem dX7_load_28 : decode cX7_load 28 = .ok (.aload_n 0, 1) := by decide +kernel
theorem dX7_load_29 : decode cX7_load 29 = .ok (.getfield 18, 3) := by decide +kernel
theorem dX7_load_32 : decode cX7_load 32 = .ok (.iload_n 3, 1) := by decide +kernel
theorem dX7_load_33 : decode cX7_load 33 = .ok (.iconst 0, 1) := by decide +kernel
theorem dX7_load_34 : decode cX7_load 34 = .ok (.iastore, 1) := by decide +kernel
theorem dX7_load_35 : decode cX7_load 35 = .ok (.iconst 0, 1) := by decide +kernel
theorem dX7_load_36 : decode cX7_load 36 = .ok (.istore 4, 2) := by decide +kernel
theorem dX7_load_38 : decode cX7_load 38 = .ok (.iload 4, 2) := by decide +kernel
theorem dX7_load_40 : decode cX7_load 40 = .ok (.aload_n 0, 1) := by decide +kernel
theorem dX7_load_41 : decode cX7_load 41 = .ok (.getfield 55, 3) := by decide +kernel
theorem dX7_load_44 : decode cX7_load 44 = .ok (.if_icmp .ge 40, 3) := by decide +kernel
theorem dX7_load_47 : decode cX7_load 47 = .ok (.aload_n 0, 1) := by decide +kernel
theorem dX7_load_48 : decode cX7_load 48 = .ok (.getfield 24, 3) := by decide +kernel
theorem dX7_load_51 : decode cX7_load 51 = .ok (.aload_n 1, 1) := by decide +kernel
theorem dX7_load_52 : decode cX7_load 52 = .ok (.iload_n 2, 1) := by decide +kernel
theorem dX7_load_53 : decode cX7_load 53 = .ok (.iload_n 3, 1) := by decide +kernel
theorem dX7_load_54 : decode cX7_load 54 = .ok (.invokevirtual 58, 3) := by decide +kernel
theorem dX7_load_57 : decode cX7_load 57 = .ok (.iload 4, 2) := by decide +kernel
theorem dX7_load_59 : decode cX7_load 59 = .ok (.invokevirtual 62, 3) := by decide +kernel
theorem dX7_load_62 : decode cX7_load 62 = .ok (.istore 5, 2) := by decide +kernel
theorem dX7_load_64 : decode cX7_load 64 = .ok (.iload 5, 2) := by decide +kernel
theorem dX7_load_66 : decode cX7_load 66 = .ok (.ifCond .eq 12, 3) := by decide +kernel
theorem dX7_load_69 : decode cX7_load 69 = .ok (.aload_n 0, 1) := by decide +kernel
theorem dX7_load_70 : decode cX7_load 70 = .ok (.iload_n 3, 1) := by decide +kernel
theorem dX7_load_71 : decode cX7_load 71 = .ok (.iload 4, 2) := by decide +kernel
theorem dX7_load_73 : decode cX7_load 73 = .ok (.iload 5, 2) := by decide +kernel
theorem dX7_load_75 : decode cX7_load 75 = .ok (.invokevirtual 67, 3) := by decide +kernel
theorem dX7_load_78 : decode cX7_load 78 = .ok (.iinc 4 1, 3) := by decide +kernel
theorem dX7_load_81 : decode cX7_load 81 = .ok (.goto (-43), 3) := by decide +kernel
theorem dX7_load_84 : decode cX7_load 84 = .ok (.iinc 3 1, 3) := by decide +kernel
theorem dX7_load_87 : decode cX7_load 87 = .ok (.goto (-67), 3) := by decide +kernel
theorem dX7_load_90 : decode cX7_load 90 = .ok (.return_, 1) := by decide +kernel
theorem dX7_append_0 : decode cX7_append 0 = .ok (.bipush 9, 2) := by decide +kernel
theorem dX7_append_2 : decode cX7_append 2 = .ok (.iload_n 1, 1) := by decide +kernel
theorem dX7_append_3 : decode cX7_append 3 = .ok (.imul, 1) := by decide +kernel
theorem dX7_append_4 : decode cX7_append 4 = .ok (.aload_n 0, 1) := by decide +kernel
theorem dX7_append_5 : decode cX7_append 5 = .ok (.getfield 18, 3) := by decide +kernel
theorem dX7_append_8 : decode cX7_append 8 = .ok (.iload_n 1, 1) := by decide +kernel
theorem dX7_append_9 : decode cX7_append 9 = .ok (.iaload, 1) := by decide +kernel
theorem dX7_append_10 : decode cX7_append 10 = .ok (.iadd, 1) := by decide +kernel
theorem dX7_append_11 : decode cX7_append 11 = .ok (.istore 4, 2) := by decide +kernel
theorem dX7_append_13 : decode cX7_append 13 = .ok (.aload_n 0, 1) := by decide +kernel
theorem dX7_append_14 : decode cX7_append 14 = .ok (.getfield 9, 3) := by decide +kernel
theorem dX7_append_17 : decode cX7_append 17 = .ok (.iload 4, 2) := by decide +kernel
theorem dX7_append_19 : decode cX7_append 19 = .ok (.iload_n 2, 1) := by decide +kernel
theorem dX7_append_20 : decode cX7_append 20 = .ok (.iastore, 1) := by decide +kernel
theorem dX7_append_21 : decode cX7_append 21 = .ok (.aload_n 0, 1) := by decide +kernel
theorem dX7_append_22 : decode cX7_append 22 = .ok (.getfield 15, 3) := by decide +kernel
theorem dX7_append_25 : decode cX7_append 25 = .ok (.iload 4, 2) := by decide +kernel
theorem dX7_append_27 : decode cX7_append 27 = .ok (.iload_n 3, 1) := by decide +kernel
theorem dX7_append_28 : decode cX7_append 28 = .ok (.iastore, 1) := by decide +kernel
theorem dX7_append_29 : decode cX7_append 29 = .ok (.aload_n 0, 1) := by decide +kernel
theorem dX7_append_30 : decode cX7_append 30 = .ok (.getfield 18, 3) := by decide +kernel
theorem dX7_append_33 : decode cX7_append 33 = .ok (.iload_n 1, 1) := by decide +kernel
theorem dX7_append_34 : decode cX7_append 34 = .ok (.dup2, 1) := by decide +kernel
theorem dX7_append_35 : decode cX7_append 35 = .ok (.iaload, 1) := by decide +kernel
theorem dX7_append_36 : decode cX7_append 36 = .ok (.iconst 1, 1) := by decide +kernel
theorem dX7_append_37 : decode cX7_append 37 = .ok (.iadd, 1) := by decide +kernel
theorem dX7_append_38 : decode cX7_append 38 = .ok (.iastore, 1) := by decide +kernel
theorem dX7_append_39 : decode cX7_append 39 = .ok (.return_, 1) := by decide +kernel
theorem dX7_sumsOfLists_0 : decode cX7_sumsOfLists 0 = .ok (.iconst 0, 1) := by decide +kernel
theorem dX7_sumsOfLists_1 : decode cX7_sumsOfLists 1 = .ok (.istore_n 1, 1) := by decide +kernel
theorem dX7_sumsOfLists_2 : decode cX7_sumsOfLists 2 = .ok (.iconst 0, 1) := by decide +kernel
theorem dX7_sumsOfLists_3 : decode cX7_sumsOfLists 3 = .ok (.istore_n 2, 1) := by decide +kernel
theorem dX7_sumsOfLists_4 : decode cX7_sumsOfLists 4 = .ok (.iload_n 2, 1) := by decide +kernel
theorem dX7_sumsOfLists_5 : decode cX7_sumsOfLists 5 = .ok (.aload_n 0, 1) := by decide +kernel
theorem dX7_sumsOfLists_6 : decode cX7_sumsOfLists 6 = .ok (.getfield 49, 3) := by decide +kernel
theorem dX7_sumsOfLists_9 : decode cX7_sumsOfLists 9 = .ok (.if_icmp .ge 24, 3) := by decide +kernel
theorem dX7_sumsOfLists_12 : decode cX7_sumsOfLists 12 = .ok (.iload_n 1, 1) := by decide +kernel
theorem dX7_sumsOfLists_13 : decode cX7_sumsOfLists 13 = .ok (.iconst 0, 1) := by decide +kernel
theorem dX7_sumsOfLists_14 : decode cX7_sumsOfLists 14 = .ok (.aload_n 0, 1) := by decide +kernel
theorem dX7_sumsOfLists_15 : decode cX7_sumsOfLists 15 = .ok (.getfield 18, 3) := by decide +kernel
theorem dX7_sumsOfLists_18 : decode cX7_sumsOfLists 18 = .ok (.iload_n 2, 1) := by decide +kernel
theorem dX7_sumsOfLists_19 : decode cX7_sumsOfLists 19 = .ok (.iaload, 1) := by decide +kernel
theorem dX7_sumsOfLists_20 : decode cX7_sumsOfLists 20 = .ok (.iconst 1, 1) := by decide +kernel
theorem dX7_sumsOfLists_21 : decode cX7_sumsOfLists 21 = .ok (.isub, 1) := by decide +kernel
theorem dX7_sumsOfLists_22 : decode cX7_sumsOfLists 22 = .ok (.invokestatic 71, 3) := by decide +kernel
theorem dX7_sumsOfLists_25 : decode cX7_sumsOfLists 25 = .ok (.iadd, 1) := by decide +kernel
theorem dX7_sumsOfLists_26 : decode cX7_sumsOfLists 26 = .ok (.istore_n 1, 1) := by decide +kernel
theorem dX7_sumsOfLists_27 : decode cX7_sumsOfLists 27 = .ok (.iinc 2 1, 3) := by decide +kernel
theorem dX7_sumsOfLists_30 : decode cX7_sumsOfLists 30 = .ok (.goto (-26), 3) := by decide +kernel
theorem dX7_sumsOfLists_33 : decode cX7_sumsOfLists 33 = .ok (.iload_n 1, 1) := by decide +kernel
theorem dX7_sumsOfLists_34 : decode cX7_sumsOfLists 34 = .ok (.ireturn, 1) := by decide +kernel
theorem dX7_seekBest_0 : decode cX7_seekBest 0 = .ok (.aload_n 0, 1) := by decide +kernel
theorem dX7_seekBest_1 : decode cX7_seekBest 1 = .ok (.iconst 1, 1) := by decide +kernel
theorem dX7_seekBest_2 : decode cX7_seekBest 2 = .ok (.putfield 76, 3) := by decide +kernel
theorem dX7_seekBest_5 : decode cX7_seekBest 5 = .ok (.aload_n 0, 1) := by decide +kernel
theorem dX7_seekBest_6 : decode cX7_seekBest 6 = .ok (.iconst (-1), 1) := by decide +kernel
theorem dX7_seekBest_7 : decode cX7_seekBest 7 = .ok (.putfield 79, 3) := by decide +kernel
theorem dX7_seekBest_10 : decode cX7_seekBest 10 = .ok (.aload_n 0, 1) := by decide +kernel
theorem dX7_seekBest_11 : decode cX7_seekBest 11 = .ok (.iconst (-1), 1) := by decide +kernel
theorem dX7_seekBest_12 : decode cX7_seekBest 12 = .ok (.putfield 82, 3) := by decide +kernel
theorem dX7_seekBest_15 : decode cX7_seekBest 15 = .ok (.iconst 0, 1) := by decide +kernel
theorem dX7_seekBest_16 : decode cX7_seekBest 16 = .ok (.istore_n 1, 1) := by decide +kernel
theorem dX7_seekBest_17 : decode cX7_seekBest 17 = .ok (.iload_n 1, 1) := by decide +kernel
theorem dX7_seekBest_18 : decode cX7_seekBest 18 = .ok (.aload_n 0, 1) := by decide +kernel
theorem dX7_seekBest_19 : decode cX7_seekBest 19 = .ok (.getfield 55, 3) := by decide +kernel
theorem dX7_seekBest_22 : decode cX7_seekBest 22 = .ok (.if_icmp .ge 59, 3) := by decide +kernel
theorem dX7_seekBest_25 : decode cX7_seekBest 25 = .ok (.aload_n 0, 1) := by decide +kernel
theorem dX7_seekBest_26 : decode cX7_seekBest 26 = .ok (.getfield 21, 3) := by decide +kernel
theorem dX7_seekBest_29 : decode cX7_seekBest 29 = .ok (.iconst 0, 1) := by decide +kernel
theorem dX7_seekBest_30 : decode cX7_seekBest 30 = .ok (.aload_n 0, 1) := by decide +kernel
theorem dX7_seekBest_31 : decode cX7_seekBest 31 = .ok (.getfield 55, 3) := by decide +kernel
theorem dX7_seekBest_34 : decode cX7_seekBest 34 = .ok (.bipush 7, 2) := by decide +kernel
theorem dX7_seekBest_36 : decode cX7_seekBest 36 = .ok (.imul, 1) := by decide +kernel
theorem dX7_seekBest_37 : decode cX7_seekBest 37 = .ok (.iconst 0, 1) := by decide +kernel
theorem dX7_seekBest_38 : decode cX7_seekBest 38 = .ok (.invokestatic 85, 3) := by decide +kernel
theorem dX7_seekBest_41 : decode cX7_seekBest 41 = .ok (.iconst 0, 1) := by decide +kernel
theorem dX7_seekBest_42 : decode cX7_seekBest 42 = .ok (.istore_n 2, 1) := by decide +kernel
theorem dX7_seekBest_43 : decode cX7_seekBest 43 = .ok (.iload_n 2, 1) := by decide +kernel
theorem dX7_seekBest_44 : decode cX7_seekBest 44 = .ok (.aload_n 0, 1) := by decide +kernel
theorem dX7_seekBest_45 : decode cX7_seekBest 45 = .ok (.getfield 49, 3) := by decide +kernel
theorem dX7_seekBest_48 : decode cX7_seekBest 48 = .ok (.if_icmp .ge 27, 3) := by decide +kernel
theorem dX7_seekBest_51 : decode cX7_seekBest 51 = .ok (.aload_n 0, 1) := by decide +kernel
theorem dX7_seekBest_52 : decode cX7_seekBest 52 = .ok (.iload_n 2, 1) := by decide +kernel
theorem dX7_seekBest_53 : decode cX7_seekBest 53 = .ok (.iload_n 1, 1) := by decide +kernel
theorem dX7_seekBest_54 : decode cX7_seekBest 54 = .ok (.invokevirtual 91, 3) := by decide +kernel
theorem dX7_seekBest_57 : decode cX7_seekBest 57 = .ok (.istore_n 3, 1) := by decide +kernel
theorem dX7_seekBest_58 : decode cX7_seekBest 58 = .ok (.iload_n 3, 1) := by decide +kernel
theorem dX7_seekBest_59 : decode cX7_seekBest 59 = .ok (.iconst (-1), 1) := by decide +kernel
theorem dX7_seekBest_60 : decode cX7_seekBest 60 = .ok (.if_icmp .eq 9, 3) := by decide +kernel
theorem dX7_seekBest_63 : decode cX7_seekBest 63 = .ok (.aload_n 0, 1) := by decide +kernel
theorem dX7_seekBest_64 : decode cX7_seekBest 64 = .ok (.iload_n 2, 1) := by decide +kernel
theorem dX7_seekBest_65 : decode cX7_seekBest 65 = .ok (.iload_n 3, 1) := by decide +kernel
theorem dX7_seekBest_66 : decode cX7_seekBest 66 = .ok (.invokevirtual 94, 3) := by decide +kernel
theorem dX7_seekBest_69 : decode cX7_seekBest 69 = .ok (.iinc 2 1, 3) := by decide +kernel
theorem dX7_seekBest_72 : decode cX7_seekBest 72 = .ok (.goto (-29), 3) := by decide +kernel
theorem dX7_seekBest_75 : decode cX7_seekBest 75 = .ok (.iinc 1 1, 3) := by decide +kernel
theorem dX7_seekBest_78 : decode cX7_seekBest 78 = .ok (.goto (-61), 3) := by decide +kernel
theorem dX7_seekBest_81 : decode cX7_seekBest 81 = .ok (.aload_n 0, 1) := by decide +kernel
theorem dX7_seekBest_82 : decode cX7_seekBest 82 = .ok (.getfield 76, 3) := by decide +kernel
theorem dX7_seekBest_85 : decode cX7_seekBest 85 = .ok (.iconst 2, 1) := by decide +kernel
theorem dX7_seekBest_86 : decode cX7_seekBest 86 = .ok (.if_icmp .lt 7, 3) := by decide +kernel
theorem dX7_seekBest_89 : decode cX7_seekBest 89 = .ok (.iconst 1, 1) := by decide +kernel
theorem dX7_seekBest_90 : decode cX7_seekBest 90 = .ok (.goto 4, 3) := by decide +kernel
theorem dX7_seekBest_93 : decode cX7_seekBest 93 = .ok (.iconst 0, 1) := by decide +kernel
theorem dX7_seekBest_94 : decode cX7_seekBest 94 = .ok (.ireturn, 1) := by decide +kernel
theorem dX7_indexOf_0 : decode cX7_indexOf 0 = .ok (.bipush 9, 2) := by decide +kernel
theorem dX7_indexOf_2 : decode cX7_indexOf 2 = .ok (.iload_n 1, 1) := by decide +kernel
theorem dX7_indexOf_3 : decode cX7_indexOf 3 = .ok (.imul, 1) := by decide +kernel
theorem dX7_indexOf_4 : decode cX7_indexOf 4 = .ok (.aload_n 0, 1) := by decide +kernel
theorem dX7_indexOf_5 : decode cX7_indexOf 5 = .ok (.getfield 18, 3) := by decide +kernel
theorem dX7_indexOf_8 : decode cX7_indexOf 8 = .ok (.iload_n 1, 1) := by decide +kernel
theorem dX7_indexOf_9 : decode cX7_indexOf 9 = .ok (.iaload, 1) := by decide +kernel
theorem dX7_indexOf_10 : decode cX7_indexOf 10 = .ok (.iadd, 1) := by decide +kernel
theorem dX7_indexOf_11 : decode cX7_indexOf 11 = .ok (.istore_n 3, 1) := by decide +kernel
theorem dX7_indexOf_12 : decode cX7_indexOf 12 = .ok (.bipush 9, 2) := by decide +kernel
theorem dX7_indexOf_14 : decode cX7_indexOf 14 = .ok (.iload_n 1, 1) := by decide +kernel
theorem dX7_indexOf_15 : decode cX7_indexOf 15 = .ok (.imul, 1) := by decide +kernel
theorem dX7_indexOf_16 : decode cX7_indexOf 16 = .ok (.istore 4, 2) := by decide +kernel
theorem dX7_indexOf_18 : decode cX7_indexOf 18 = .ok (.iload 4, 2) := by decide +kernel
theorem dX7_indexOf_20 : decode cX7_indexOf 20 = .ok (.iload_n 3, 1) := by decide +kernel
theorem dX7_indexOf_21 : decode cX7_indexOf 21 = .ok (.if_icmp .ge 34, 3) := by decide +kernel
theorem dX7_indexOf_24 : decode cX7_indexOf 24 = .ok (.aload_n 0, 1) := by decide +kernel
theorem dX7_indexOf_25 : decode cX7_indexOf 25 = .ok (.getfield 9, 3) := by decide +kernel
theorem dX7_indexOf_28 : decode cX7_indexOf 28 = .ok (.iload 4, 2) := by decide +kernel
theorem dX7_indexOf_30 : decode cX7_indexOf 30 = .ok (.iaload, 1) := by decide +kernel
theorem dX7_indexOf_31 : decode cX7_indexOf 31 = .ok (.iload_n 2, 1) := by decide +kernel
theorem dX7_indexOf_32 : decode cX7_indexOf 32 = .ok (.if_icmp .gt 23, 3) := by decide +kernel
theorem dX7_indexOf_35 : decode cX7_indexOf 35 = .ok (.aload_n 0, 1) := by decide +kernel
theorem dX7_indexOf_36 : decode cX7_indexOf 36 = .ok (.getfield 9, 3) := by decide +kernel
theorem dX7_indexOf_39 : decode cX7_indexOf 39 = .ok (.iload 4, 2) := by decide +kernel
theorem dX7_indexOf_41 : decode cX7_indexOf 41 = .ok (.iaload, 1) := by decide +kernel
theorem dX7_indexOf_42 : decode cX7_indexOf 42 = .ok (.iload_n 2, 1) := by decide +kernel
theorem dX7_indexOf_43 : decode cX7_indexOf 43 = .ok (.if_icmp .ne 6, 3) := by decide +kernel
theorem dX7_indexOf_46 : decode cX7_indexOf 46 = .ok (.iload 4, 2) := by decide +kernel
theorem dX7_indexOf_48 : decode cX7_indexOf 48 = .ok (.ireturn, 1) := by decide +kernel
theorem dX7_indexOf_49 : decode cX7_indexOf 49 = .ok (.iinc 4 1, 3) := by decide +kernel
theorem dX7_indexOf_52 : decode cX7_indexOf 52 = .ok (.goto (-34), 3) := by decide +kernel
theorem dX7_indexOf_55 : decode cX7_indexOf 55 = .ok (.iconst (-1), 1) := by decide +kernel
theorem dX7_indexOf_56 : decode cX7_indexOf 56 = .ok (.ireturn, 1) := by decide +kernel
theorem dX7_tallyBehind_0 : decode cX7_tallyBehind 0 = .ok (.bipush 9, 2) := by decide +kernel
theorem dX7_tallyBehind_2 : decode cX7_tallyBehind 2 = .ok (.iload_n 1, 1) := by decide +kernel
theorem dX7_tallyBehind_3 : decode cX7_tallyBehind 3 = .ok (.imul, 1) := by decide +kernel
theorem dX7_tallyBehind_4 : decode cX7_tallyBehind 4 = .ok (.aload_n 0, 1) := by decide +kernel
theorem dX7_tallyBehind_5 : decode cX7_tallyBehind 5 = .ok (.getfield 18, 3) := by decide +kernel
theorem dX7_tallyBehind_8 : decode cX7_tallyBehind 8 = .ok (.iload_n 1, 1) := by decide +kernel
theorem dX7_tallyBehind_9 : decode cX7_tallyBehind 9 = .ok (.iaload, 1) := by decide +kernel
theorem dX7_tallyBehind_10 : decode cX7_tallyBehind 10 = .ok (.iadd, 1) := by decide +kernel
theorem dX7_tallyBehind_11 : decode cX7_tallyBehind 11 = .ok (.istore_n 3, 1) := by decide +kernel
theorem dX7_tallyBehind_12 : decode cX7_tallyBehind 12 = .ok (.iload_n 2, 1) := by decide +kernel
theorem dX7_tallyBehind_13 : decode cX7_tallyBehind 13 = .ok (.iconst 1, 1) := by decide +kernel
theorem dX7_tallyBehind_14 : decode cX7_tallyBehind 14 = .ok (.iadd, 1) := by decide +kernel
theorem dX7_tallyBehind_15 : decode cX7_tallyBehind 15 = .ok (.istore 4, 2) := by decide +kernel
theorem dX7_tallyBehind_17 : decode cX7_tallyBehind 17 = .ok (.iload 4, 2) := by decide +kernel
theorem dX7_tallyBehind_19 : decode cX7_tallyBehind 19 = .ok (.iload_n 3, 1) := by decide +kernel
theorem dX7_tallyBehind_20 : decode cX7_tallyBehind 20 = .ok (.if_icmp .ge 118, 3) := by decide +kernel
theorem dX7_tallyBehind_23 : decode cX7_tallyBehind 23 = .ok (.aload_n 0, 1) := by decide +kernel
theorem dX7_tallyBehind_24 : decode cX7_tallyBehind 24 = .ok (.iload_n 2, 1) := by decide +kernel
theorem dX7_tallyBehind_25 : decode cX7_tallyBehind 25 = .ok (.iload 4, 2) := by decide +kernel
theorem dX7_tallyBehind_27 : decode cX7_tallyBehind 27 = .ok (.invokevirtual 98, 3) := by decide +kernel
theorem dX7_tallyBehind_30 : decode cX7_tallyBehind 30 = .ok (.istore 5, 2) := by decide +kernel
theorem dX7_tallyBehind_32 : decode cX7_tallyBehind 32 = .ok (.aload_n 0, 1) := by decide +kernel
theorem dX7_tallyBehind_33 : decode cX7_tallyBehind 33 = .ok (.getfield 21, 3) := by decide +kernel
theorem dX7_tallyBehind_36 : decode cX7_tallyBehind 36 = .ok (.iload 5, 2) := by decide +kernel
theorem dX7_tallyBehind_38 : decode cX7_tallyBehind 38 = .ok (.dup2, 1) := by decide +kernel
theorem dX7_tallyBehind_39 : decode cX7_tallyBehind 39 = .ok (.iaload, 1) := by decide +kernel
theorem dX7_tallyBehind_40 : decode cX7_tallyBehind 40 = .ok (.iconst 1, 1) := by decide +kernel
theorem dX7_tallyBehind_41 : decode cX7_tallyBehind 41 = .ok (.iadd, 1) := by decide +kernel
theorem dX7_tallyBehind_42 : decode cX7_tallyBehind 42 = .ok (.iastore, 1) := by decide +kernel
theorem dX7_tallyBehind_43 : decode cX7_tallyBehind 43 = .ok (.aload_n 0, 1) := by decide +kernel
theorem dX7_tallyBehind_44 : decode cX7_tallyBehind 44 = .ok (.getfield 79, 3) := by decide +kernel
theorem dX7_tallyBehind_47 : decode cX7_tallyBehind 47 = .ok (.aload_n 0, 1) := by decide +kernel
theorem dX7_tallyBehind_48 : decode cX7_tallyBehind 48 = .ok (.getfield 9, 3) := by decide +kernel
theorem dX7_tallyBehind_51 : decode cX7_tallyBehind 51 = .ok (.iload_n 2, 1) := by decide +kernel
theorem dX7_tallyBehind_52 : decode cX7_tallyBehind 52 = .ok (.iaload, 1) := by decide +kernel
theorem dX7_tallyBehind_53 : decode cX7_tallyBehind 53 = .ok (.if_icmp .ne 16, 3) := by decide +kernel
theorem dX7_tallyBehind_56 : decode cX7_tallyBehind 56 = .ok (.iload 5, 2) := by decide +kernel
theorem dX7_tallyBehind_58 : decode cX7_tallyBehind 58 = .ok (.aload_n 0, 1) := by decide +kernel
theorem dX7_tallyBehind_59 : decode cX7_tallyBehind 59 = .ok (.getfield 82, 3) := by decide +kernel
theorem dX7_tallyBehind_62 : decode cX7_tallyBehind 62 = .ok (.if_icmp .ge 7, 3) := by decide +kernel
theorem dX7_tallyBehind_65 : decode cX7_tallyBehind 65 = .ok (.iconst 1, 1) := by decide +kernel
theorem dX7_tallyBehind_66 : decode cX7_tallyBehind 66 = .ok (.goto 4, 3) := by decide +kernel
theorem dX7_tallyBehind_69 : decode cX7_tallyBehind 69 = .ok (.iconst 0, 1) := by decide +kernel
theorem dX7_tallyBehind_70 : decode cX7_tallyBehind 70 = .ok (.istore 6, 2) := by decide +kernel
theorem dX7_tallyBehind_72 : decode cX7_tallyBehind 72 = .ok (.aload_n 0, 1) := by decide +kernel
theorem dX7_tallyBehind_73 : decode cX7_tallyBehind 73 = .ok (.getfield 21, 3) := by decide +kernel
theorem dX7_tallyBehind_76 : decode cX7_tallyBehind 76 = .ok (.iload 5, 2) := by decide +kernel
theorem dX7_tallyBehind_78 : decode cX7_tallyBehind 78 = .ok (.iaload, 1) := by decide +kernel
theorem dX7_tallyBehind_79 : decode cX7_tallyBehind 79 = .ok (.aload_n 0, 1) := by decide +kernel
theorem dX7_tallyBehind_80 : decode cX7_tallyBehind 80 = .ok (.getfield 76, 3) := by decide +kernel
theorem dX7_tallyBehind_83 : decode cX7_tallyBehind 83 = .ok (.if_icmp .gt 22, 3) := by decide +kernel
theorem dX7_tallyBehind_86 : decode cX7_tallyBehind 86 = .ok (.aload_n 0, 1) := by decide +kernel
theorem dX7_tallyBehind_87 : decode cX7_tallyBehind 87 = .ok (.getfield 21, 3) := by decide +kernel
theorem dX7_tallyBehind_90 : decode cX7_tallyBehind 90 = .ok (.iload 5, 2) := by decide +kernel
theorem dX7_tallyBehind_92 : decode cX7_tallyBehind 92 = .ok (.iaload, 1) := by decide +kernel
theorem dX7_tallyBehind_93 : decode cX7_tallyBehind 93 = .ok (.aload_n 0, 1) := by decide +kernel
theorem dX7_tallyBehind_94 : decode cX7_tallyBehind 94 = .ok (.getfield 76, 3) := by decide +kernel
theorem dX7_tallyBehind_97 : decode cX7_tallyBehind 97 = .ok (.if_icmp .ne 35, 3) := by decide +kernel
theorem dX7_tallyBehind_100 : decode cX7_tallyBehind 100 = .ok (.iload 6, 2) := by decide +kernel
theorem dX7_tallyBehind_102 : decode cX7_tallyBehind 102 = .ok (.ifCond .eq 30, 3) := by decide +kernel
theorem dX7_tallyBehind_105 : decode cX7_tallyBehind 105 = .ok (.aload_n 0, 1) := by decide +kernel
theorem dX7_tallyBehind_106 : decode cX7_tallyBehind 106 = .ok (.aload_n 0, 1) := by decide +kernel
theorem dX7_tallyBehind_107 : decode cX7_tallyBehind 107 = .ok (.getfield 21, 3) := by decide +kernel
theorem dX7_tallyBehind_110 : decode cX7_tallyBehind 110 = .ok (.iload 5, 2) := by decide +kernel
theorem dX7_tallyBehind_112 : decode cX7_tallyBehind 112 = .ok (.iaload, 1) := by decide +kernel
theorem dX7_tallyBehind_113 : decode cX7_tallyBehind 113 = .ok (.putfield 76, 3) := by decide +kernel
theorem dX7_tallyBehind_116 : decode cX7_tallyBehind 116 = .ok (.aload_n 0, 1) := by decide +kernel
theorem dX7_tallyBehind_117 : decode cX7_tallyBehind 117 = .ok (.aload_n 0, 1) := by decide +kernel
theorem dX7_tallyBehind_118 : decode cX7_tallyBehind 118 = .ok (.getfield 9, 3) := by decide +kernel
theorem dX7_tallyBehind_121 : decode cX7_tallyBehind 121 = .ok (.iload_n 2, 1) := by decide +kernel
theorem dX7_tallyBehind_122 : decode cX7_tallyBehind 122 = .ok (.iaload, 1) := by decide +kernel
theorem dX7_tallyBehind_123 : decode cX7_tallyBehind 123 = .ok (.putfield 79, 3) := by decide +kernel
theorem dX7_tallyBehind_126 : decode cX7_tallyBehind 126 = .ok (.aload_n 0, 1) := by decide +kernel
theorem dX7_tallyBehind_127 : decode cX7_tallyBehind 127 = .ok (.iload 5, 2) := by decide +kernel
theorem dX7_tallyBehind_129 : decode cX7_tallyBehind 129 = .ok (.putfield 82, 3) := by decide +kernel
theorem dX7_tallyBehind_132 : decode cX7_tallyBehind 132 = .ok (.iinc 4 1, 3) := by decide +kernel
theorem dX7_tallyBehind_135 : decode cX7_tallyBehind 135 = .ok (.goto (-118), 3) := by decide +kernel
theorem dX7_tallyBehind_138 : decode cX7_tallyBehind 138 = .ok (.return_, 1) := by decide +kernel
theorem dX7_keyOf_0 : decode cX7_keyOf 0 = .ok (.aload_n 0, 1) := by decide +kernel
theorem dX7_keyOf_1 : decode cX7_keyOf 1 = .ok (.getfield 15, 3) := by decide +kernel
theorem dX7_keyOf_4 : decode cX7_keyOf 4 = .ok (.iload_n 2, 1) := by decide +kernel
theorem dX7_keyOf_5 : decode cX7_keyOf 5 = .ok (.iaload, 1) := by decide +kernel
theorem dX7_keyOf_6 : decode cX7_keyOf 6 = .ok (.aload_n 0, 1) := by decide +kernel
theorem dX7_keyOf_7 : decode cX7_keyOf 7 = .ok (.getfield 24, 3) := by decide +kernel
theorem dX7_keyOf_10 : decode cX7_keyOf 10 = .ok (.getfield 101, 3) := by decide +kernel
theorem dX7_keyOf_13 : decode cX7_keyOf 13 = .ok (.aload_n 0, 1) := by decide +kernel
theorem dX7_keyOf_14 : decode cX7_keyOf 14 = .ok (.getfield 15, 3) := by decide +kernel
theorem dX7_keyOf_17 : decode cX7_keyOf 17 = .ok (.iload_n 1, 1) := by decide +kernel
theorem dX7_keyOf_18 : decode cX7_keyOf 18 = .ok (.iaload, 1) := by decide +kernel
theorem dX7_keyOf_19 : decode cX7_keyOf 19 = .ok (.iaload, 1) := by decide +kernel
theorem dX7_keyOf_20 : decode cX7_keyOf 20 = .ok (.imul, 1) := by decide +kernel
theorem dX7_keyOf_21 : decode cX7_keyOf 21 = .ok (.aload_n 0, 1) := by decide +kernel
theorem dX7_keyOf_22 : decode cX7_keyOf 22 = .ok (.getfield 24, 3) := by decide +kernel
theorem dX7_keyOf_25 : decode cX7_keyOf 25 = .ok (.getfield 104, 3) := by decide +kernel
theorem dX7_keyOf_28 : decode cX7_keyOf 28 = .ok (.irem, 1) := by decide +kernel
theorem dX7_keyOf_29 : decode cX7_keyOf 29 = .ok (.istore_n 3, 1) := by decide +kernel
theorem dX7_keyOf_30 : decode cX7_keyOf 30 = .ok (.aload_n 0, 1) := by decide +kernel
theorem dX7_keyOf_31 : decode cX7_keyOf 31 = .ok (.getfield 9, 3) := by decide +kernel
theorem dX7_keyOf_34 : decode cX7_keyOf 34 = .ok (.iload_n 2, 1) := by decide +kernel
theorem dX7_keyOf_35 : decode cX7_keyOf 35 = .ok (.iaload, 1) := by decide +kernel
theorem dX7_keyOf_36 : decode cX7_keyOf 36 = .ok (.bipush 7, 2) := by decide +kernel
theorem dX7_keyOf_38 : decode cX7_keyOf 38 = .ok (.imul, 1) := by decide +kernel
theorem dX7_keyOf_39 : decode cX7_keyOf 39 = .ok (.iload_n 3, 1) := by decide +kernel
theorem dX7_keyOf_40 : decode cX7_keyOf 40 = .ok (.iadd, 1) := by decide +kernel
theorem dX7_keyOf_41 : decode cX7_keyOf 41 = .ok (.ireturn, 1) := by decide +kernel
theorem dX7_takeBest_0 : decode cX7_takeBest 0 = .ok (.iconst 0, 1) := by decide +kernel
theorem dX7_takeBest_1 : decode cX7_takeBest 1 = .ok (.istore_n 1, 1) := by decide +kernel
theorem dX7_takeBest_2 : decode cX7_takeBest 2 = .ok (.iload_n 1, 1) := by decide +kernel
theorem dX7_takeBest_3 : decode cX7_takeBest 3 = .ok (.aload_n 0, 1) := by decide +kernel
theorem dX7_takeBest_4 : decode cX7_takeBest 4 = .ok (.getfield 49, 3) := by decide +kernel
theorem dX7_takeBest_7 : decode cX7_takeBest 7 = .ok (.if_icmp .ge 86, 3) := by decide +kernel
theorem dX7_takeBest_10 : decode cX7_takeBest 10 = .ok (.aload_n 0, 1) := by decide +kernel
theorem dX7_takeBest_11 : decode cX7_takeBest 11 = .ok (.iload_n 1, 1) := by decide +kernel
theorem dX7_takeBest_12 : decode cX7_takeBest 12 = .ok (.aload_n 0, 1) := by decide +kernel
theorem dX7_takeBest_13 : decode cX7_takeBest 13 = .ok (.getfield 79, 3) := by decide +kernel
theorem dX7_takeBest_16 : decode cX7_takeBest 16 = .ok (.invokevirtual 91, 3) := by decide +kernel
theorem dX7_takeBest_19 : decode cX7_takeBest 19 = .ok (.istore_n 2, 1) := by decide +kernel
theorem dX7_takeBest_20 : decode cX7_takeBest 20 = .ok (.aload_n 0, 1) := by decide +kernel
theorem dX7_takeBest_21 : decode cX7_takeBest 21 = .ok (.iload_n 1, 1) := by decide +kernel
theorem dX7_takeBest_22 : decode cX7_takeBest 22 = .ok (.aload_n 0, 1) := by decide +kernel
theorem dX7_takeBest_23 : decode cX7_takeBest 23 = .ok (.getfield 82, 3) := by decide +kernel
theorem dX7_takeBest_26 : decode cX7_takeBest 26 = .ok (.bipush 7, 2) := by decide +kernel
theorem dX7_takeBest_28 : decode cX7_takeBest 28 = .ok (.idiv, 1) := by decide +kernel
theorem dX7_takeBest_29 : decode cX7_takeBest 29 = .ok (.invokevirtual 91, 3) := by decide +kernel
theorem dX7_takeBest_32 : decode cX7_takeBest 32 = .ok (.istore_n 3, 1) := by decide +kernel
theorem dX7_takeBest_33 : decode cX7_takeBest 33 = .ok (.iload_n 2, 1) := by decide +kernel
theorem dX7_takeBest_34 : decode cX7_takeBest 34 = .ok (.iconst (-1), 1) := by decide +kernel
theorem dX7_takeBest_35 : decode cX7_takeBest 35 = .ok (.if_icmp .eq 52, 3) := by decide +kernel
theorem dX7_takeBest_38 : decode cX7_takeBest 38 = .ok (.iload_n 3, 1) := by decide +kernel
theorem dX7_takeBest_39 : decode cX7_takeBest 39 = .ok (.iconst (-1), 1) := by decide +kernel
theorem dX7_takeBest_40 : decode cX7_takeBest 40 = .ok (.if_icmp .eq 47, 3) := by decide +kernel
theorem dX7_takeBest_43 : decode cX7_takeBest 43 = .ok (.aload_n 0, 1) := by decide +kernel
theorem dX7_takeBest_44 : decode cX7_takeBest 44 = .ok (.iload_n 2, 1) := by decide +kernel
theorem dX7_takeBest_45 : decode cX7_takeBest 45 = .ok (.iload_n 3, 1) := by decide +kernel
theorem dX7_takeBest_46 : decode cX7_takeBest 46 = .ok (.invokevirtual 98, 3) := by decide +kernel
theorem dX7_takeBest_49 : decode cX7_takeBest 49 = .ok (.aload_n 0, 1) := by decide +kernel
theorem dX7_takeBest_50 : decode cX7_takeBest 50 = .ok (.getfield 82, 3) := by decide +kernel
theorem dX7_takeBest_53 : decode cX7_takeBest 53 = .ok (.if_icmp .ne 34, 3) := by decide +kernel
theorem dX7_takeBest_56 : decode cX7_takeBest 56 = .ok (.aload_n 0, 1) := by decide +kernel
theorem dX7_takeBest_57 : decode cX7_takeBest 57 = .ok (.getfield 15, 3) := by decide +kernel
theorem dX7_takeBest_60 : decode cX7_takeBest 60 = .ok (.iload_n 2, 1) := by decide +kernel
theorem dX7_takeBest_61 : decode cX7_takeBest 61 = .ok (.iaload, 1) := by decide +kernel
theorem dX7_takeBest_62 : decode cX7_takeBest 62 = .ok (.istore 4, 2) := by decide +kernel
theorem dX7_takeBest_64 : decode cX7_takeBest 64 = .ok (.aload_n 0, 1) := by decide +kernel
theorem dX7_takeBest_65 : decode cX7_takeBest 65 = .ok (.iload_n 1, 1) := by decide +kernel
theorem dX7_takeBest_66 : decode cX7_takeBest 66 = .ok (.iload_n 3, 1) := by decide +kernel
theorem dX7_takeBest_67 : decode cX7_takeBest 67 = .ok (.invokevirtual 107, 3) := by decide +kernel
theorem dX7_takeBest_70 : decode cX7_takeBest 70 = .ok (.aload_n 0, 1) := by decide +kernel
theorem dX7_takeBest_71 : decode cX7_takeBest 71 = .ok (.iload_n 1, 1) := by decide +kernel
theorem dX7_takeBest_72 : decode cX7_takeBest 72 = .ok (.iload_n 2, 1) := by decide +kernel
theorem dX7_takeBest_73 : decode cX7_takeBest 73 = .ok (.invokevirtual 107, 3) := by decide +kernel
theorem dX7_takeBest_76 : decode cX7_takeBest 76 = .ok (.aload_n 0, 1) := by decide +kernel
theorem dX7_takeBest_77 : decode cX7_takeBest 77 = .ok (.iload_n 1, 1) := by decide +kernel
theorem dX7_takeBest_78 : decode cX7_takeBest 78 = .ok (.aload_n 0, 1) := by decide +kernel
theorem dX7_takeBest_79 : decode cX7_takeBest 79 = .ok (.getfield 55, 3) := by decide +kernel
theorem dX7_takeBest_82 : decode cX7_takeBest 82 = .ok (.iload 4, 2) := by decide +kernel
theorem dX7_takeBest_84 : decode cX7_takeBest 84 = .ok (.invokevirtual 67, 3) := by decide +kernel
theorem dX7_takeBest_87 : decode cX7_takeBest 87 = .ok (.iinc 1 1, 3) := by decide +kernel
theorem dX7_takeBest_90 : decode cX7_takeBest 90 = .ok (.goto (-88), 3) := by decide +kernel
theorem dX7_takeBest_93 : decode cX7_takeBest 93 = .ok (.aload_n 0, 1) := by decide +kernel
theorem dX7_takeBest_94 : decode cX7_takeBest 94 = .ok (.dup, 1) := by decide +kernel
theorem dX7_takeBest_95 : decode cX7_takeBest 95 = .ok (.getfield 55, 3) := by decide +kernel
theorem dX7_takeBest_98 : decode cX7_takeBest 98 = .ok (.iconst 1, 1) := by decide +kernel
theorem dX7_takeBest_99 : decode cX7_takeBest 99 = .ok (.iadd, 1) := by decide +kernel
theorem dX7_takeBest_100 : decode cX7_takeBest 100 = .ok (.putfield 55, 3) := by decide +kernel
theorem dX7_takeBest_103 : decode cX7_takeBest 103 = .ok (.return_, 1) := by decide +kernel
theorem dX7_cut_0 : decode cX7_cut 0 = .ok (.bipush 9, 2) := by decide +kernel
theorem dX7_cut_2 : decode cX7_cut 2 = .ok (.iload_n 1, 1) := by decide +kernel
theorem dX7_cut_3 : decode cX7_cut 3 = .ok (.imul, 1) := by decide +kernel
theorem dX7_cut_4 : decode cX7_cut 4 = .ok (.aload_n 0, 1) := by decide +kernel
theorem dX7_cut_5 : decode cX7_cut 5 = .ok (.getfield 18, 3) := by decide +kernel
theorem dX7_cut_8 : decode cX7_cut 8 = .ok (.iload_n 1, 1) := by decide +kernel
theorem dX7_cut_9 : decode cX7_cut 9 = .ok (.iaload, 1) := by decide +kernel
theorem dX7_cut_10 : decode cX7_cut 10 = .ok (.iadd, 1) := by decide +kernel
theorem dX7_cut_11 : decode cX7_cut 11 = .ok (.iload_n 2, 1) := by decide +kernel
theorem dX7_cut_12 : decode cX7_cut 12 = .ok (.isub, 1) := by decide +kernel
theorem dX7_cut_13 : decode cX7_cut 13 = .ok (.iconst 1, 1) := by decide +kernel
theorem dX7_cut_14 : decode cX7_cut 14 = .ok (.isub, 1) := by decide +kernel
theorem dX7_cut_15 : decode cX7_cut 15 = .ok (.istore_n 3, 1) := by decide +kernel
theorem dX7_cut_16 : decode cX7_cut 16 = .ok (.aload_n 0, 1) := by decide +kernel
theorem dX7_cut_17 : decode cX7_cut 17 = .ok (.getfield 9, 3) := by decide +kernel
theorem dX7_cut_20 : decode cX7_cut 20 = .ok (.iload_n 2, 1) := by decide +kernel
theorem dX7_cut_21 : decode cX7_cut 21 = .ok (.iconst 1, 1) := by decide +kernel
theorem dX7_cut_22 : decode cX7_cut 22 = .ok (.iadd, 1) := by decide +kernel
theorem dX7_cut_23 : decode cX7_cut 23 = .ok (.aload_n 0, 1) := by decide +kernel
theorem dX7_cut_24 : decode cX7_cut 24 = .ok (.getfield 9, 3) := by decide +kernel
theorem dX7_cut_27 : decode cX7_cut 27 = .ok (.iload_n 2, 1) := by decide +kernel
theorem dX7_cut_28 : decode cX7_cut 28 = .ok (.iload_n 3, 1) := by decide +kernel
theorem dX7_cut_29 : decode cX7_cut 29 = .ok (.invokestatic 110, 3) := by decide +kernel
theorem dX7_cut_32 : decode cX7_cut 32 = .ok (.aload_n 0, 1) := by decide +kernel
theorem dX7_cut_33 : decode cX7_cut 33 = .ok (.getfield 15, 3) := by decide +kernel
theorem dX7_cut_36 : decode cX7_cut 36 = .ok (.iload_n 2, 1) := by decide +kernel
theorem dX7_cut_37 : decode cX7_cut 37 = .ok (.iconst 1, 1) := by decide +kernel
theorem dX7_cut_38 : decode cX7_cut 38 = .ok (.iadd, 1) := by decide +kernel
theorem dX7_cut_39 : decode cX7_cut 39 = .ok (.aload_n 0, 1) := by decide +kernel
theorem dX7_cut_40 : decode cX7_cut 40 = .ok (.getfield 15, 3) := by decide +kernel
theorem dX7_cut_43 : decode cX7_cut 43 = .ok (.iload_n 2, 1) := by decide +kernel
theorem dX7_cut_44 : decode cX7_cut 44 = .ok (.iload_n 3, 1) := by decide +kernel
theorem dX7_cut_45 : decode cX7_cut 45 = .ok (.invokestatic 110, 3) := by decide +kernel
theorem dX7_cut_48 : decode cX7_cut 48 = .ok (.aload_n 0, 1) := by decide +kernel
theorem dX7_cut_49 : decode cX7_cut 49 = .ok (.getfield 18, 3) := by decide +kernel
theorem dX7_cut_52 : decode cX7_cut 52 = .ok (.iload_n 1, 1) := by decide +kernel
theorem dX7_cut_53 : decode cX7_cut 53 = .ok (.dup2, 1) := by decide +kernel
theorem dX7_cut_54 : decode cX7_cut 54 = .ok (.iaload, 1) := by decide +kernel
theorem dX7_cut_55 : decode cX7_cut 55 = .ok (.iconst 1, 1) := by decide +kernel
theorem dX7_cut_56 : decode cX7_cut 56 = .ok (.isub, 1) := by decide +kernel
theorem dX7_cut_57 : decode cX7_cut 57 = .ok (.iastore, 1) := by decide +kernel
theorem dX7_cut_58 : decode cX7_cut 58 = .ok (.return_, 1) := by decide +kernel
end
section
theorem dX8_init_0 : decode cX8_init 0 = .ok (.aload_n 0, 1) := by decide +kernel
theorem dX8_init_1 : decode cX8_init 1 = .ok (.invokespecial 3, 3) := by decide +kernel
theorem dX8_init_4 : decode cX8_init 4 = .ok (.aload_n 0, 1) := by decide +kernel
theorem dX8_init_5 : decode cX8_init 5 = .ok (.new 9, 3) := by decide +kernel
theorem dX8_init_8 : decode cX8_init 8 = .ok (.dup, 1) := by decide +kernel
theorem dX8_init_9 : decode cX8_init 9 = .ok (.invokespecial 11, 3) := by decide +kernel
theorem dX8_init_12 : decode cX8_init 12 = .ok (.putfield 12, 3) := by decide +kernel
theorem dX8_init_15 : decode cX8_init 15 = .ok (.aload_n 0, 1) := by decide +kernel
theorem dX8_init_16 : decode cX8_init 16 = .ok (.new 16, 3) := by decide +kernel
theorem dX8_init_19 : decode cX8_init 19 = .ok (.dup, 1) := by decide +kernel
theorem dX8_init_20 : decode cX8_init 20 = .ok (.aload_n 0, 1) := by decide +kernel
theorem dX8_init_21 : decode cX8_init 21 = .ok (.getfield 12, 3) := by decide +kernel
theorem dX8_init_24 : decode cX8_init 24 = .ok (.invokespecial 18, 3) := by decide +kernel
theorem dX8_init_27 : decode cX8_init 27 = .ok (.putfield 21, 3) := by decide +kernel
theorem dX8_init_30 : decode cX8_init 30 = .ok (.aload_n 0, 1) := by decide +kernel
theorem dX8_init_31 : decode cX8_init 31 = .ok (.new 16, 3) := by decide +kernel
theorem dX8_init_34 : decode cX8_init 34 = .ok (.dup, 1) := by decide +kernel
theorem dX8_init_35 : decode cX8_init 35 = .ok (.aload_n 0, 1) := by decide +kernel
theorem dX8_init_36 : decode cX8_init 36 = .ok (.getfield 12, 3) := by decide +kernel
theorem dX8_init_39 : decode cX8_init 39 = .ok (.invokespecial 18, 3) := by decide +kernel
theorem dX8_init_42 : decode cX8_init 42 = .ok (.putfield 25, 3) := by decide +kernel
theorem dX8_init_45 : decode cX8_init 45 = .ok (.aload_n 0, 1) := by decide +kernel
theorem dX8_init_46 : decode cX8_init 46 = .ok (.iconst 4, 1) := by decide +kernel
theorem dX8_init_47 : decode cX8_init 47 = .ok (.anewarray 16, 3) := by decide +kernel
theorem dX8_init_50 : decode cX8_init 50 = .ok (.putfield 28, 3) := by decide +kernel
theorem dX8_init_53 : decode cX8_init 53 = .ok (.iconst 0, 1) := by decide +kernel
theorem dX8_init_54 : decode cX8_init 54 = .ok (.istore_n 1, 1) := by decide +kernel
theorem dX8_init_55 : decode cX8_init 55 = .ok (.iload_n 1, 1) := by decide +kernel
theorem dX8_init_56 : decode cX8_init 56 = .ok (.iconst 4, 1) := by decide +kernel
theorem dX8_init_57 : decode cX8_init 57 = .ok (.if_icmp .ge 26, 3) := by decide +kernel
theorem dX8_init_60 : decode cX8_init 60 = .ok (.aload_n 0, 1) := by decide +kernel
theorem dX8_init_61 : decode cX8_init 61 = .ok (.getfield 28, 3) := by decide +kernel
theorem dX8_init_64 : decode cX8_init 64 = .ok (.iload_n 1, 1) := by decide +kernel
theorem dX8_init_65 : decode cX8_init 65 = .ok (.new 16, 3) := by decide +kernel
theorem dX8_init_68 : decode cX8_init 68 = .ok (.dup, 1) := by decide +kernel
theorem dX8_init_69 : decode cX8_init 69 = .ok (.aload_n 0, 1) := by decide +kernel
theorem dX8_init_70 : decode cX8_init 70 = .ok (.getfield 12, 3) := by decide +kernel
theorem dX8_init_73 : decode cX8_init 73 = .ok (.invokespecial 18, 3) := by decide +kernel
theorem dX8_init_76 : decode cX8_init 76 = .ok (.aastore, 1) := by decide +kernel
theorem dX8_init_77 : decode cX8_init 77 = .ok (.iinc 1 1, 3) := by decide +kernel
theorem dX8_init_80 : decode cX8_init 80 = .ok (.goto (-25), 3) := by decide +kernel
theorem dX8_init_83 : decode cX8_init 83 = .ok (.aload_n 0, 1) := by decide +kernel
theorem dX8_init_84 : decode cX8_init 84 = .ok (.iconst 4, 1) := by decide +kernel
theorem dX8_init_85 : decode cX8_init 85 = .ok (.newarray .boolean, 2) := by decide +kernel
theorem dX8_init_87 : decode cX8_init 87 = .ok (.putfield 32, 3) := by decide +kernel
theorem dX8_init_90 : decode cX8_init 90 = .ok (.aload_n 0, 1) := by decide +kernel
theorem dX8_init_91 : decode cX8_init 91 = .ok (.iconst 2, 1) := by decide +kernel
theorem dX8_init_92 : decode cX8_init 92 = .ok (.newarray .int, 2) := by decide +kernel
theorem dX8_init_94 : decode cX8_init 94 = .ok (.putfield 36, 3) := by decide +kernel
theorem dX8_init_97 : decode cX8_init 97 = .ok (.aload_n 0, 1) := by decide +kernel
theorem dX8_init_98 : decode cX8_init 98 = .ok (.new 40, 3) := by decide +kernel
theorem dX8_init_101 : decode cX8_init 101 = .ok (.dup, 1) := by decide +kernel
theorem dX8_init_102 : decode cX8_init 102 = .ok (.aload_n 0, 1) := by decide +kernel
theorem dX8_init_103 : decode cX8_init 103 = .ok (.getfield 12, 3) := by decide +kernel
theorem dX8_init_106 : decode cX8_init 106 = .ok (.invokespecial 42, 3) := by decide +kernel
theorem dX8_init_109 : decode cX8_init 109 = .ok (.putfield 43, 3) := by decide +kernel
theorem dX8_init_112 : decode cX8_init 112 = .ok (.aload_n 0, 1) := by decide +kernel
theorem dX8_init_113 : decode cX8_init 113 = .ok (.new 47, 3) := by decide +kernel
theorem dX8_init_116 : decode cX8_init 116 = .ok (.dup, 1) := by decide +kernel
theorem dX8_init_117 : decode cX8_init 117 = .ok (.aload_n 0, 1) := by decide +kernel
theorem dX8_init_118 : decode cX8_init 118 = .ok (.getfield 12, 3) := by decide +kernel
theorem dX8_init_121 : decode cX8_init 121 = .ok (.invokespecial 49, 3) := by decide +kernel
theorem dX8_init_124 : decode cX8_init 124 = .ok (.putfield 50, 3) := by decide +kernel
theorem dX8_init_127 : decode cX8_init 127 = .ok (.aload_n 0, 1) := by decide +kernel
theorem dX8_init_128 : decode cX8_init 128 = .ok (.new 54, 3) := by decide +kernel
theorem dX8_init_131 : decode cX8_init 131 = .ok (.dup, 1) := by decide +kernel
theorem dX8_init_132 : decode cX8_init 132 = .ok (.aload_n 0, 1) := by decide +kernel
theorem dX8_init_133 : decode cX8_init 133 = .ok (.getfield 12, 3) := by decide +kernel
theorem dX8_init_136 : decode cX8_init 136 = .ok (.invokespecial 56, 3) := by decide +kernel
theorem dX8_init_139 : decode cX8_init 139 = .ok (.putfield 57, 3) := by decide +kernel
theorem dX8_init_142 : decode cX8_init 142 = .ok (.aload_n 0, 1) := by decide +kernel
theorem dX8_init_143 : decode cX8_init 143 = .ok (.new 61, 3) := by decide +kernel
theorem dX8_init_146 : decode cX8_init 146 = .ok (.dup, 1) := by decide +kernel
theorem dX8_init_147 : decode cX8_init 147 = .ok (.aload_n 0, 1) := by decide +kernel
theorem dX8_init_148 : decode cX8_init 148 = .ok (.getfield 12, 3) := by decide +kernel
theorem dX8_init_151 : decode cX8_init 151 = .ok (.invokespecial 63, 3) := by decide +kernel
theorem dX8_init_154 : decode cX8_init 154 = .ok (.putfield 64, 3) := by decide +kernel
theorem dX8_init_157 : decode cX8_init 157 = .ok (.aload_n 0, 1) := by decide +kernel
theorem dX8_init_158 : decode cX8_init 158 = .ok (.new 68, 3) := by decide +kernel
theorem dX8_init_161 : decode cX8_init 161 = .ok (.dup, 1) := by decide +kernel
theorem dX8_init_162 : decode cX8_init 162 = .ok (.aload_n 0, 1) := by decide +kernel
theorem dX8_init_163 : decode cX8_init 163 = .ok (.getfield 12, 3) := by decide +kernel
theorem dX8_init_166 : decode cX8_init 166 = .ok (.invokespecial 70, 3) := by decide +kernel
theorem dX8_init_169 : decode cX8_init 169 = .ok (.putfield 71, 3) := by decide +kernel
theorem dX8_init_172 : decode cX8_init 172 = .ok (.aload_n 0, 1) := by decide +kernel
theorem dX8_init_173 : decode cX8_init 173 = .ok (.new 75, 3) := by decide +kernel
theorem dX8_init_176 : decode cX8_init 176 = .ok (.dup, 1) := by decide +kernel
theorem dX8_init_177 : decode cX8_init 177 = .ok (.aload_n 0, 1) := by decide +kernel
theorem dX8_init_178 : decode cX8_init 178 = .ok (.getfield 12, 3) := by decide +kernel
theorem dX8_init_181 : decode cX8_init 181 = .ok (.invokespecial 77, 3) := by decide +kernel
theorem dX8_init_184 : decode cX8_init 184 = .ok (.putfield 78, 3) := by decide +kernel
theorem dX8_init_187 : decode cX8_init 187 = .ok (.return_, 1) := by decide +kernel
theorem dX8_ground_0 : decode cX8_ground 0 = .ok (.iload_n 1, 1) := by decide +kernel
theorem dX8_ground_1 : decode cX8_ground 1 = .ok (.invokestatic 82, 3) := by decide +kernel
theorem dX8_ground_4 : decode cX8_ground 4 = .ok (.ifCond .ne 5, 3) := by decide +kernel
theorem dX8_ground_7 : decode cX8_ground 7 = .ok (.iconst (-1), 1) := by decide +kernel
theorem dX8_ground_8 : decode cX8_ground 8 = .ok (.ireturn, 1) := by decide +kernel
theorem dX8_ground_9 : decode cX8_ground 9 = .ok (.aload_n 0, 1) := by decide +kernel
theorem dX8_ground_10 : decode cX8_ground 10 = .ok (.getfield 12, 3) := by decide +kernel
theorem dX8_ground_13 : decode cX8_ground 13 = .ok (.iload_n 1, 1) := by decide +kernel
theorem dX8_ground_14 : decode cX8_ground 14 = .ok (.invokevirtual 86, 3) := by decide +kernel
theorem dX8_ground_17 : decode cX8_ground 17 = .ok (.iconst 0, 1) := by decide +kernel
theorem dX8_ground_18 : decode cX8_ground 18 = .ok (.istore_n 2, 1) := by decide +kernel
theorem dX8_ground_19 : decode cX8_ground 19 = .ok (.iload_n 2, 1) := by decide +kernel
theorem dX8_ground_20 : decode cX8_ground 20 = .ok (.iconst 4, 1) := by decide +kernel
theorem dX8_ground_21 : decode cX8_ground 21 = .ok (.if_icmp .ge 16, 3) := by decide +kernel
theorem dX8_ground_24 : decode cX8_ground 24 = .ok (.aload_n 0, 1) := by decide +kernel
theorem dX8_ground_25 : decode cX8_ground 25 = .ok (.getfield 32, 3) := by decide +kernel
theorem dX8_ground_28 : decode cX8_ground 28 = .ok (.iload_n 2, 1) := by decide +kernel
theorem dX8_ground_29 : decode cX8_ground 29 = .ok (.iconst 0, 1) := by decide +kernel
theorem dX8_ground_30 : decode cX8_ground 30 = .ok (.bastore, 1) := by decide +kernel
theorem dX8_ground_31 : decode cX8_ground 31 = .ok (.iinc 2 1, 3) := by decide +kernel
theorem dX8_ground_34 : decode cX8_ground 34 = .ok (.goto (-15), 3) := by decide +kernel
theorem dX8_ground_37 : decode cX8_ground 37 = .ok (.aload_n 0, 1) := by decide +kernel
theorem dX8_ground_38 : decode cX8_ground 38 = .ok (.iconst 1, 1) := by decide +kernel
theorem dX8_ground_39 : decode cX8_ground 39 = .ok (.iconst 1, 1) := by decide +kernel
theorem dX8_ground_40 : decode cX8_ground 40 = .ok (.iconst 1, 1) := by decide +kernel
theorem dX8_ground_41 : decode cX8_ground 41 = .ok (.invokevirtual 90, 3) := by decide +kernel
theorem dX8_ground_44 : decode cX8_ground 44 = .ok (.iconst 1, 1) := by decide +kernel
theorem dX8_ground_45 : decode cX8_ground 45 = .ok (.ireturn, 1) := by decide +kernel
theorem dX8_box_0 : decode cX8_box 0 = .ok (.iload_n 1, 1) := by decide +kernel
theorem dX8_box_1 : decode cX8_box 1 = .ok (.invokestatic 94, 3) := by decide +kernel
theorem dX8_box_4 : decode cX8_box 4 = .ok (.ifCond .eq 17, 3) := by decide +kernel
theorem dX8_box_7 : decode cX8_box 7 = .ok (.iload_n 2, 1) := by decide +kernel
theorem dX8_box_8 : decode cX8_box 8 = .ok (.invokestatic 94, 3) := by decide +kernel
theorem dX8_box_11 : decode cX8_box 11 = .ok (.ifCond .eq 10, 3) := by decide +kernel
theorem dX8_box_14 : decode cX8_box 14 = .ok (.iload_n 3, 1) := by decide +kernel
theorem dX8_box_15 : decode cX8_box 15 = .ok (.invokestatic 94, 3) := by decide +kernel
theorem dX8_box_18 : decode cX8_box 18 = .ok (.ifCond .ne 5, 3) := by decide +kernel
theorem dX8_box_21 : decode cX8_box 21 = .ok (.iconst (-1), 1) := by decide +kernel
theorem dX8_box_22 : decode cX8_box 22 = .ok (.ireturn, 1) := by decide +kernel
theorem dX8_box_23 : decode cX8_box 23 = .ok (.aload_n 0, 1) := by decide +kernel
theorem dX8_box_24 : decode cX8_box 24 = .ok (.iload_n 1, 1) := by decide +kernel
theorem dX8_box_25 : decode cX8_box 25 = .ok (.iload_n 2, 1) := by decide +kernel
theorem dX8_box_26 : decode cX8_box 26 = .ok (.iload_n 3, 1) := by decide +kernel
theorem dX8_box_27 : decode cX8_box 27 = .ok (.invokevirtual 90, 3) := by decide +kernel
theorem dX8_box_30 : decode cX8_box 30 = .ok (.iconst 1, 1) := by decide +kernel
theorem dX8_box_31 : decode cX8_box 31 = .ok (.ireturn, 1) := by decide +kernel
theorem dX8_tables_0 : decode cX8_tables 0 = .ok (.iload_n 1, 1) := by decide +kernel
theorem dX8_tables_1 : decode cX8_tables 1 = .ok (.invokestatic 94, 3) := by decide +kernel
theorem dX8_tables_4 : decode cX8_tables 4 = .ok (.ifCond .eq 17, 3) := by decide +kernel
theorem dX8_tables_7 : decode cX8_tables 7 = .ok (.iload_n 2, 1) := by decide +kernel
theorem dX8_tables_8 : decode cX8_tables 8 = .ok (.invokestatic 94, 3) := by decide +kernel
theorem dX8_tables_11 : decode cX8_tables 11 = .ok (.ifCond .eq 10, 3) := by decide +kernel
theorem dX8_tables_14 : decode cX8_tables 14 = .ok (.iload_n 3, 1) := by decide +kernel
theorem dX8_tables_15 : decode cX8_tables 15 = .ok (.invokestatic 94, 3) := by decide +kernel
theorem dX8_tables_18 : decode cX8_tables 18 = .ok (.ifCond .ne 5, 3) := by decide +kernel
theorem dX8_tables_21 : decode cX8_tables 21 = .ok (.iconst (-1), 1) := by decide +kernel
theorem dX8_tables_22 : decode cX8_tables 22 = .ok (.ireturn, 1) := by decide +kernel
theorem dX8_tables_23 : decode cX8_tables 23 = .ok (.iload_n 1, 1) := by decide +kernel
theorem dX8_tables_24 : decode cX8_tables 24 = .ok (.iload_n 2, 1) := by decide +kernel
theorem dX8_tables_25 : decode cX8_tables 25 = .ok (.imul, 1) := by decide +kernel
theorem dX8_tables_26 : decode cX8_tables 26 = .ok (.bipush 9, 2) := by decide +kernel
theorem dX8_tables_28 : decode cX8_tables 28 = .ok (.if_icmp .gt 19, 3) := by decide +kernel
theorem dX8_tables_31 : decode cX8_tables 31 = .ok (.iload_n 2, 1) := by decide +kernel
theorem dX8_tables_32 : decode cX8_tables 32 = .ok (.iload_n 3, 1) := by decide +kernel
theorem dX8_tables_33 : decode cX8_tables 33 = .ok (.imul, 1) := by decide +kernel
theorem dX8_tables_34 : decode cX8_tables 34 = .ok (.bipush 9, 2) := by decide +kernel
theorem dX8_tables_36 : decode cX8_tables 36 = .ok (.if_icmp .gt 11, 3) := by decide +kernel
theorem dX8_tables_39 : decode cX8_tables 39 = .ok (.iload_n 1, 1) := by decide +kernel
theorem dX8_tables_40 : decode cX8_tables 40 = .ok (.iload_n 3, 1) := by decide +kernel
theorem dX8_tables_41 : decode cX8_tables 41 = .ok (.imul, 1) := by decide +kernel
theorem dX8_tables_42 : decode cX8_tables 42 = .ok (.bipush 9, 2) := by decide +kernel
theorem dX8_tables_44 : decode cX8_tables 44 = .ok (.if_icmp .le 6, 3) := by decide +kernel
theorem dX8_tables_47 : decode cX8_tables 47 = .ok (.bipush (-3), 2) := by decide +kernel
theorem dX8_tables_49 : decode cX8_tables 49 = .ok (.ireturn, 1) := by decide +kernel
theorem dX8_tables_50 : decode cX8_tables 50 = .ok (.aload_n 0, 1) := by decide +kernel
theorem dX8_tables_51 : decode cX8_tables 51 = .ok (.iload_n 1, 1) := by decide +kernel
theorem dX8_tables_52 : decode cX8_tables 52 = .ok (.iload_n 2, 1) := by decide +kernel
theorem dX8_tables_53 : decode cX8_tables 53 = .ok (.imul, 1) := by decide +kernel
theorem dX8_tables_54 : decode cX8_tables 54 = .ok (.iload_n 2, 1) := by decide +kernel
theorem dX8_tables_55 : decode cX8_tables 55 = .ok (.iload_n 3, 1) := by decide +kernel
theorem dX8_tables_56 : decode cX8_tables 56 = .ok (.imul, 1) := by decide +kernel
theorem dX8_tables_57 : decode cX8_tables 57 = .ok (.iload_n 1, 1) := by decide +kernel
theorem dX8_tables_58 : decode cX8_tables 58 = .ok (.iload_n 3, 1) := by decide +kernel
theorem dX8_tables_59 : decode cX8_tables 59 = .ok (.imul, 1) := by decide +kernel
theorem dX8_tables_60 : decode cX8_tables 60 = .ok (.invokevirtual 90, 3) := by decide +kernel
theorem dX8_tables_63 : decode cX8_tables 63 = .ok (.iconst 0, 1) := by decide +kernel
theorem dX8_tables_64 : decode cX8_tables 64 = .ok (.istore 4, 2) := by decide +kernel
theorem dX8_tables_66 : decode cX8_tables 66 = .ok (.iload 4, 2) := by decide +kernel
theorem dX8_tables_68 : decode cX8_tables 68 = .ok (.iload_n 1, 1) := by decide +kernel
theorem dX8_tables_69 : decode cX8_tables 69 = .ok (.if_icmp .ge 68, 3) := by decide +kernel
theorem dX8_tables_72 : decode cX8_tables 72 = .ok (.iconst 0, 1) := by decide +kernel
theorem dX8_tables_73 : decode cX8_tables 73 = .ok (.istore 5, 2) := by decide +kernel
theorem dX8_tables_75 : decode cX8_tables 75 = .ok (.iload 5, 2) := by decide +kernel
theorem dX8_tables_77 : decode cX8_tables 77 = .ok (.iload_n 2, 1) := by decide +kernel
theorem dX8_tables_78 : decode cX8_tables 78 = .ok (.if_icmp .ge 53, 3) := by decide +kernel
theorem dX8_tables_81 : decode cX8_tables 81 = .ok (.iconst 0, 1) := by decide +kernel
theorem dX8_tables_82 : decode cX8_tables 82 = .ok (.istore 6, 2) := by decide +kernel
theorem dX8_tables_84 : decode cX8_tables 84 = .ok (.iload 6, 2) := by decide +kernel
theorem dX8_tables_86 : decode cX8_tables 86 = .ok (.iload_n 3, 1) := by decide +kernel
theorem dX8_tables_87 : decode cX8_tables 87 = .ok (.if_icmp .ge 38, 3) := by decide +kernel
theorem dX8_tables_90 : decode cX8_tables 90 = .ok (.aload_n 0, 1) := by decide +kernel
theorem dX8_tables_91 : decode cX8_tables 91 = .ok (.getfield 21, 3) := by decide +kernel
theorem dX8_tables_94 : decode cX8_tables 94 = .ok (.iload_n 2, 1) := by decide +kernel
theorem dX8_tables_95 : decode cX8_tables 95 = .ok (.iload 4, 2) := by decide +kernel
theorem dX8_tables_97 : decode cX8_tables 97 = .ok (.imul, 1) := by decide +kernel
theorem dX8_tables_98 : decode cX8_tables 98 = .ok (.iload 5, 2) := by decide +kernel
theorem dX8_tables_100 : decode cX8_tables 100 = .ok (.iadd, 1) := by decide +kernel
theorem dX8_tables_101 : decode cX8_tables 101 = .ok (.iload_n 3, 1) := by decide +kernel
theorem dX8_tables_102 : decode cX8_tables 102 = .ok (.iload 5, 2) := by decide +kernel
theorem dX8_tables_104 : decode cX8_tables 104 = .ok (.imul, 1) := by decide +kernel
theorem dX8_tables_105 : decode cX8_tables 105 = .ok (.iload 6, 2) := by decide +kernel
theorem dX8_tables_107 : decode cX8_tables 107 = .ok (.iadd, 1) := by decide +kernel
theorem dX8_tables_108 : decode cX8_tables 108 = .ok (.iload_n 3, 1) := by decide +kernel
theorem dX8_tables_109 : decode cX8_tables 109 = .ok (.iload 4, 2) := by decide +kernel
theorem dX8_tables_111 : decode cX8_tables 111 = .ok (.imul, 1) := by decide +kernel
theorem dX8_tables_112 : decode cX8_tables 112 = .ok (.iload 6, 2) := by decide +kernel
theorem dX8_tables_114 : decode cX8_tables 114 = .ok (.iadd, 1) := by decide +kernel
theorem dX8_tables_115 : decode cX8_tables 115 = .ok (.iconst 1, 1) := by decide +kernel
theorem dX8_tables_116 : decode cX8_tables 116 = .ok (.invokevirtual 97, 3) := by decide +kernel
theorem dX8_tables_119 : decode cX8_tables 119 = .ok (.iinc 6 1, 3) := by decide +kernel
theorem dX8_tables_122 : decode cX8_tables 122 = .ok (.goto (-38), 3) := by decide +kernel
theorem dX8_tables_125 : decode cX8_tables 125 = .ok (.iinc 5 1, 3) := by decide +kernel
theorem dX8_tables_128 : decode cX8_tables 128 = .ok (.goto (-53), 3) := by decide +kernel
theorem dX8_tables_131 : decode cX8_tables 131 = .ok (.iinc 4 1, 3) := by decide +kernel
theorem dX8_tables_134 : decode cX8_tables 134 = .ok (.goto (-68), 3) := by decide +kernel
theorem dX8_tables_137 : decode cX8_tables 137 = .ok (.iconst 1, 1) := by decide +kernel
theorem dX8_tables_138 : decode cX8_tables 138 = .ok (.ireturn, 1) := by decide +kernel
theorem dX8_rows_0 : decode cX8_rows 0 = .ok (.iload_n 1, 1) := by decide +kernel
theorem dX8_rows_1 : decode cX8_rows 1 = .ok (.invokestatic 94, 3) := by decide +kernel
theorem dX8_rows_4 : decode cX8_rows 4 = .ok (.ifCond .eq 20, 3) := by decide +kernel
theorem dX8_rows_7 : decode cX8_rows 7 = .ok (.iload_n 2, 1) := by decide +kernel
theorem dX8_rows_8 : decode cX8_rows 8 = .ok (.invokestatic 94, 3) := by decide +kernel
theorem dX8_rows_11 : decode cX8_rows 11 = .ok (.ifCond .eq 13, 3) := by decide +kernel
theorem dX8_rows_14 : decode cX8_rows 14 = .ok (.iload_n 3, 1) := by decide +kernel
theorem dX8_rows_15 : decode cX8_rows 15 = .ok (.ifCond .lt 9, 3) := by decide +kernel
theorem dX8_rows_18 : decode cX8_rows 18 = .ok (.iload_n 3, 1) := by decide +kernel
theorem dX8_rows_19 : decode cX8_rows 19 = .ok (.bipush 9, 2) := by decide +kernel
theorem dX8_rows_21 : decode cX8_rows 21 = .ok (.if_icmp .le 5, 3) := by decide +kernel
theorem dX8_rows_24 : decode cX8_rows 24 = .ok (.iconst (-1), 1) := by decide +kernel
theorem dX8_rows_25 : decode cX8_rows 25 = .ok (.ireturn, 1) := by decide +kernel
theorem dX8_rows_26 : decode cX8_rows 26 = .ok (.iload_n 3, 1) := by decide +kernel
theorem dX8_rows_27 : decode cX8_rows 27 = .ok (.ifCond .ne 11, 3) := by decide +kernel
theorem dX8_rows_30 : decode cX8_rows 30 = .ok (.iload_n 1, 1) := by decide +kernel
theorem dX8_rows_31 : decode cX8_rows 31 = .ok (.iload_n 2, 1) := by decide +kernel
theorem dX8_rows_32 : decode cX8_rows 32 = .ok (.iadd, 1) := by decide +kernel
theorem dX8_rows_33 : decode cX8_rows 33 = .ok (.iconst 1, 1) := by decide +kernel
theorem dX8_rows_34 : decode cX8_rows 34 = .ok (.isub, 1) := by decide +kernel
theorem dX8_rows_35 : decode cX8_rows 35 = .ok (.goto 4, 3) := by decide +kernel
theorem dX8_rows_38 : decode cX8_rows 38 = .ok (.iload_n 3, 1) := by decide +kernel
theorem dX8_rows_39 : decode cX8_rows 39 = .ok (.istore 4, 2) := by decide +kernel
theorem dX8_rows_41 : decode cX8_rows 41 = .ok (.iload 4, 2) := by decide +kernel
theorem dX8_rows_43 : decode cX8_rows 43 = .ok (.bipush 9, 2) := by decide +kernel
theorem dX8_rows_45 : decode cX8_rows 45 = .ok (.if_icmp .le 6, 3) := by decide +kernel
theorem dX8_rows_48 : decode cX8_rows 48 = .ok (.bipush (-3), 2) := by decide +kernel
theorem dX8_rows_50 : decode cX8_rows 50 = .ok (.ireturn, 1) := by decide +kernel
theorem dX8_rows_51 : decode cX8_rows 51 = .ok (.aload_n 0, 1) := by decide +kernel
theorem dX8_rows_52 : decode cX8_rows 52 = .ok (.iload_n 1, 1) := by decide +kernel
theorem dX8_rows_53 : decode cX8_rows 53 = .ok (.iload_n 2, 1) := by decide +kernel
theorem dX8_rows_54 : decode cX8_rows 54 = .ok (.iload 4, 2) := by decide +kernel
theorem dX8_rows_56 : decode cX8_rows 56 = .ok (.invokevirtual 90, 3) := by decide +kernel
theorem dX8_rows_59 : decode cX8_rows 59 = .ok (.iconst 0, 1) := by decide +kernel
theorem dX8_rows_60 : decode cX8_rows 60 = .ok (.istore 5, 2) := by decide +kernel
theorem dX8_rows_62 : decode cX8_rows 62 = .ok (.iload 5, 2) := by decide +kernel
theorem dX8_rows_64 : decode cX8_rows 64 = .ok (.iload_n 1, 1) := by decide +kernel
theorem dX8_rows_65 : decode cX8_rows 65 = .ok (.if_icmp .ge 44, 3) := by decide +kernel
theorem dX8_rows_68 : decode cX8_rows 68 = .ok (.iconst 0, 1) := by decide +kernel
theorem dX8_rows_69 : decode cX8_rows 69 = .ok (.istore 6, 2) := by decide +kernel
theorem dX8_rows_71 : decode cX8_rows 71 = .ok (.iload 6, 2) := by decide +kernel
theorem dX8_rows_73 : decode cX8_rows 73 = .ok (.iload_n 2, 1) := by decide +kernel
theorem dX8_rows_74 : decode cX8_rows 74 = .ok (.if_icmp .ge 29, 3) := by decide +kernel
theorem dX8_rows_77 : decode cX8_rows 77 = .ok (.aload_n 0, 1) := by decide +kernel
theorem dX8_rows_78 : decode cX8_rows 78 = .ok (.getfield 21, 3) := by decide +kernel
theorem dX8_rows_81 : decode cX8_rows 81 = .ok (.iload 5, 2) := by decide +kernel
theorem dX8_rows_83 : decode cX8_rows 83 = .ok (.iload 6, 2) := by decide +kernel
theorem dX8_rows_85 : decode cX8_rows 85 = .ok (.iload 5, 2) := by decide +kernel
theorem dX8_rows_87 : decode cX8_rows 87 = .ok (.iload 6, 2) := by decide +kernel
theorem dX8_rows_89 : decode cX8_rows 89 = .ok (.iadd, 1) := by decide +kernel
theorem dX8_rows_90 : decode cX8_rows 90 = .ok (.iload 4, 2) := by decide +kernel
theorem dX8_rows_92 : decode cX8_rows 92 = .ok (.irem, 1) := by decide +kernel
theorem dX8_rows_93 : decode cX8_rows 93 = .ok (.iconst 1, 1) := by decide +kernel
theorem dX8_rows_94 : decode cX8_rows 94 = .ok (.invokevirtual 97, 3) := by decide +kernel
theorem dX8_rows_97 : decode cX8_rows 97 = .ok (.iinc 6 1, 3) := by decide +kernel
theorem dX8_rows_100 : decode cX8_rows 100 = .ok (.goto (-29), 3) := by decide +kernel
theorem dX8_rows_103 : decode cX8_rows 103 = .ok (.iinc 5 1, 3) := by decide +kernel
theorem dX8_rows_106 : decode cX8_rows 106 = .ok (.goto (-44), 3) := by decide +kernel
theorem dX8_rows_109 : decode cX8_rows 109 = .ok (.iconst 1, 1) := by decide +kernel
theorem dX8_rows_110 : decode cX8_rows 110 = .ok (.ireturn, 1) := by decide +kernel
theorem dX8_set_0 : decode cX8_set 0 = .ok (.aload_n 0, 1) := by decide +kernel
theorem dX8_set_1 : decode cX8_set 1 = .ok (.getfield 21, 3) := by decide +kernel
theorem dX8_set_4 : decode cX8_set 4 = .ok (.iload_n 1, 1) := by decide +kernel
theorem dX8_set_5 : decode cX8_set 5 = .ok (.iload_n 2, 1) := by decide +kernel
theorem dX8_set_6 : decode cX8_set 6 = .ok (.iload_n 3, 1) := by decide +kernel
theorem dX8_set_7 : decode cX8_set 7 = .ok (.invokevirtual 101, 3) := by decide +kernel
theorem dX8_set_10 : decode cX8_set 10 = .ok (.ifCond .eq 15, 3) := by decide +kernel
theorem dX8_set_13 : decode cX8_set 13 = .ok (.aload_n 0, 1) := by decide +kernel
theorem dX8_set_14 : decode cX8_set 14 = .ok (.getfield 12, 3) := by decide +kernel
theorem dX8_set_17 : decode cX8_set 17 = .ok (.iload 4, 2) := by decide +kernel
theorem dX8_set_19 : decode cX8_set 19 = .ok (.invokevirtual 105, 3) := by decide +kernel
theorem dX8_set_22 : decode cX8_set 22 = .ok (.ifCond .ne 5, 3) := by decide +kernel
theorem dX8_set_25 : decode cX8_set 25 = .ok (.iconst (-1), 1) := by decide +kernel
theorem dX8_set_26 : decode cX8_set 26 = .ok (.ireturn, 1) := by decide +kernel
theorem dX8_set_27 : decode cX8_set 27 = .ok (.aload_n 0, 1) := by decide +kernel
theorem dX8_set_28 : decode cX8_set 28 = .ok (.getfield 21, 3) := by decide +kernel
theorem dX8_set_31 : decode cX8_set 31 = .ok (.iload_n 1, 1) := by decide +kernel
theorem dX8_set_32 : decode cX8_set 32 = .ok (.iload_n 2, 1) := by decide +kernel
theorem dX8_set_33 : decode cX8_set 33 = .ok (.iload_n 3, 1) := by decide +kernel
theorem dX8_set_34 : decode cX8_set 34 = .ok (.invokevirtual 108, 3) := by decide +kernel
theorem dX8_set_37 : decode cX8_set 37 = .ok (.istore 5, 2) := by decide +kernel
theorem dX8_set_39 : decode cX8_set 39 = .ok (.aload_n 0, 1) := by decide +kernel
theorem dX8_set_40 : decode cX8_set 40 = .ok (.getfield 21, 3) := by decide +kernel
theorem dX8_set_43 : decode cX8_set 43 = .ok (.iload_n 1, 1) := by decide +kernel
theorem dX8_set_44 : decode cX8_set 44 = .ok (.iload_n 2, 1) := by decide +kernel
theorem dX8_set_45 : decode cX8_set 45 = .ok (.iload_n 3, 1) := by decide +kernel
theorem dX8_set_46 : decode cX8_set 46 = .ok (.iload 4, 2) := by decide +kernel
theorem dX8_set_48 : decode cX8_set 48 = .ok (.invokevirtual 97, 3) := by decide +kernel
theorem dX8_set_51 : decode cX8_set 51 = .ok (.iload 5, 2) := by decide +kernel
theorem dX8_set_53 : decode cX8_set 53 = .ok (.ireturn, 1) := by decide +kernel
theorem dX8_at_0 : decode cX8_at 0 = .ok (.aload_n 0, 1) := by decide +kernel
theorem dX8_at_1 : decode cX8_at 1 = .ok (.getfield 21, 3) := by decide +kernel
theorem dX8_at_4 : decode cX8_at 4 = .ok (.iload_n 1, 1) := by decide +kernel
theorem dX8_at_5 : decode cX8_at 5 = .ok (.iload_n 2, 1) := by decide +kernel
theorem dX8_at_6 : decode cX8_at 6 = .ok (.iload_n 3, 1) := by decide +kernel
theorem dX8_at_7 : decode cX8_at 7 = .ok (.invokevirtual 101, 3) := by decide +kernel
theorem dX8_at_10 : decode cX8_at 10 = .ok (.ifCond .eq 16, 3) := by decide +kernel
theorem dX8_at_13 : decode cX8_at 13 = .ok (.aload_n 0, 1) := by decide +kernel
theorem dX8_at_14 : decode cX8_at 14 = .ok (.getfield 21, 3) := by decide +kernel
theorem dX8_at_17 : decode cX8_at 17 = .ok (.iload_n 1, 1) := by decide +kernel
theorem dX8_at_18 : decode cX8_at 18 = .ok (.iload_n 2, 1) := by decide +kernel
theorem dX8_at_19 : decode cX8_at 19 = .ok (.iload_n 3, 1) := by decide +kernel
theorem dX8_at_20 : decode cX8_at 20 = .ok (.invokevirtual 108, 3) := by decide +kernel
theorem dX8_at_23 : decode cX8_at 23 = .ok (.goto 4, 3) := by decide +kernel
theorem dX8_at_26 : decode cX8_at 26 = .ok (.iconst (-1), 1) := by decide +kernel
theorem dX8_at_27 : decode cX8_at 27 = .ok (.ireturn, 1) := by decide +kernel
theorem dX8_many_0 : decode cX8_many 0 = .ok (.iload_n 1, 1) := by decide +kernel
theorem dX8_many_1 : decode cX8_many 1 = .ok (.tableswitch 91 0 6 #[43, 51, 51, 51, 63, 71, 79], 43) := by decide +kernel
theorem dX8_many_44 : decode cX8_many 44 = .ok (.aload_n 0, 1) := by decide +kernel
theorem dX8_many_45 : decode cX8_many 45 = .ok (.getfield 12, 3) := by decide +kernel
theorem dX8_many_48 : decode cX8_many 48 = .ok (.getfield 112, 3) := by decide +kernel
theorem dX8_many_51 : decode cX8_many 51 = .ok (.ireturn, 1) := by decide +kernel
theorem dX8_many_52 : decode cX8_many 52 = .ok (.aload_n 0, 1) := by decide +kernel
theorem dX8_many_53 : decode cX8_many 53 = .ok (.getfield 21, 3) := by decide +kernel
theorem dX8_many_56 : decode cX8_many 56 = .ok (.getfield 116, 3) := by decide +kernel
theorem dX8_many_59 : decode cX8_many 59 = .ok (.iload_n 1, 1) := by decide +kernel
theorem dX8_many_60 : decode cX8_many 60 = .ok (.iconst 1, 1) := by decide +kernel
theorem dX8_many_61 : decode cX8_many 61 = .ok (.isub, 1) := by decide +kernel
theorem dX8_many_62 : decode cX8_many 62 = .ok (.iaload, 1) := by decide +kernel
theorem dX8_many_63 : decode cX8_many 63 = .ok (.ireturn, 1) := by decide +kernel
theorem dX8_many_64 : decode cX8_many 64 = .ok (.aload_n 0, 1) := by decide +kernel
theorem dX8_many_65 : decode cX8_many 65 = .ok (.getfield 21, 3) := by decide +kernel
theorem dX8_many_68 : decode cX8_many 68 = .ok (.getfield 119, 3) := by decide +kernel
theorem dX8_many_71 : decode cX8_many 71 = .ok (.ireturn, 1) := by decide +kernel
theorem dX8_many_72 : decode cX8_many 72 = .ok (.aload_n 0, 1) := by decide +kernel
theorem dX8_many_73 : decode cX8_many 73 = .ok (.getfield 21, 3) := by decide +kernel
theorem dX8_many_76 : decode cX8_many 76 = .ok (.invokevirtual 122, 3) := by decide +kernel
theorem dX8_many_79 : decode cX8_many 79 = .ok (.ireturn, 1) := by decide +kernel
theorem dX8_many_80 : decode cX8_many 80 = .ok (.aload_n 0, 1) := by decide +kernel
theorem dX8_many_81 : decode cX8_many 81 = .ok (.getfield 43, 3) := by decide +kernel
theorem dX8_many_84 : decode cX8_many 84 = .ok (.aload_n 0, 1) := by decide +kernel
theorem dX8_many_85 : decode cX8_many 85 = .ok (.getfield 21, 3) := by decide +kernel
theorem dX8_many_88 : decode cX8_many 88 = .ok (.invokevirtual 126, 3) := by decide +kernel
theorem dX8_many_91 : decode cX8_many 91 = .ok (.ireturn, 1) := by decide +kernel
theorem dX8_many_92 : decode cX8_many 92 = .ok (.iconst (-1), 1) := by decide +kernel
theorem dX8_many_93 : decode cX8_many 93 = .ok (.ireturn, 1) := by decide +kernel
theorem dX8_time_0 : decode cX8_time 0 = .ok (.aload_n 0, 1) := by decide +kernel
theorem dX8_time_1 : decode cX8_time 1 = .ok (.getfield 21, 3) := by decide +kernel
theorem dX8_time_4 : decode cX8_time 4 = .ok (.iconst 0, 1) := by decide +kernel
theorem dX8_time_5 : decode cX8_time 5 = .ok (.iload_n 1, 1) := by decide +kernel
theorem dX8_time_6 : decode cX8_time 6 = .ok (.invokevirtual 130, 3) := by decide +kernel
theorem dX8_time_9 : decode cX8_time 9 = .ok (.ifCond .eq 27, 3) := by decide +kernel
theorem dX8_time_12 : decode cX8_time 12 = .ok (.aload_n 0, 1) := by decide +kernel
theorem dX8_time_13 : decode cX8_time 13 = .ok (.getfield 21, 3) := by decide +kernel
theorem dX8_time_16 : decode cX8_time 16 = .ok (.iconst 1, 1) := by decide +kernel
theorem dX8_time_17 : decode cX8_time 17 = .ok (.iload_n 2, 1) := by decide +kernel
theorem dX8_time_18 : decode cX8_time 18 = .ok (.invokevirtual 130, 3) := by decide +kernel
theorem dX8_time_21 : decode cX8_time 21 = .ok (.ifCond .eq 15, 3) := by decide +kernel
theorem dX8_time_24 : decode cX8_time 24 = .ok (.aload_n 0, 1) := by decide +kernel
theorem dX8_time_25 : decode cX8_time 25 = .ok (.getfield 21, 3) := by decide +kernel
theorem dX8_time_28 : decode cX8_time 28 = .ok (.iconst 2, 1) := by decide +kernel
theorem dX8_time_29 : decode cX8_time 29 = .ok (.iload_n 3, 1) := by decide +kernel
theorem dX8_time_30 : decode cX8_time 30 = .ok (.invokevirtual 130, 3) := by decide +kernel
theorem dX8_time_33 : decode cX8_time 33 = .ok (.ifCond .ne 5, 3) := by decide +kernel
theorem dX8_time_36 : decode cX8_time 36 = .ok (.iconst (-1), 1) := by decide +kernel
theorem dX8_time_37 : decode cX8_time 37 = .ok (.ireturn, 1) := by decide +kernel
theorem dX8_time_38 : decode cX8_time 38 = .ok (.aload_n 0, 1) := by decide +kernel
theorem dX8_time_39 : decode cX8_time 39 = .ok (.getfield 21, 3) := by decide +kernel
theorem dX8_time_42 : decode cX8_time 42 = .ok (.getfield 119, 3) := by decide +kernel
theorem dX8_time_45 : decode cX8_time 45 = .ok (.bipush 40, 2) := by decide +kernel
theorem dX8_time_47 : decode cX8_time 47 = .ok (.if_icmp .lt 6, 3) := by decide +kernel
theorem dX8_time_50 : decode cX8_time 50 = .ok (.bipush (-2), 2) := by decide +kernel
theorem dX8_time_52 : decode cX8_time 52 = .ok (.ireturn, 1) := by decide +kernel
theorem dX8_time_53 : decode cX8_time 53 = .ok (.aload_n 0, 1) := by decide +kernel
theorem dX8_time_54 : decode cX8_time 54 = .ok (.getfield 21, 3) := by decide +kernel
theorem dX8_time_57 : decode cX8_time 57 = .ok (.iload_n 1, 1) := by decide +kernel
theorem dX8_time_58 : decode cX8_time 58 = .ok (.iload_n 2, 1) := by decide +kernel
theorem dX8_time_59 : decode cX8_time 59 = .ok (.iload_n 3, 1) := by decide +kernel
theorem dX8_time_60 : decode cX8_time 60 = .ok (.invokevirtual 134, 3) := by decide +kernel
theorem dX8_time_63 : decode cX8_time 63 = .ok (.aload_n 0, 1) := by decide +kernel
theorem dX8_time_64 : decode cX8_time 64 = .ok (.getfield 21, 3) := by decide +kernel
theorem dX8_time_67 : decode cX8_time 67 = .ok (.getfield 119, 3) := by decide +kernel
theorem dX8_time_70 : decode cX8_time 70 = .ok (.iconst 1, 1) := by decide +kernel
theorem dX8_time_71 : decode cX8_time 71 = .ok (.isub, 1) := by decide +kernel
theorem dX8_time_72 : decode cX8_time 72 = .ok (.ireturn, 1) := by decide +kernel
theorem dX8_row_0 : decode cX8_row 0 = .ok (.aload_n 0, 1) := by decide +kernel
theorem dX8_row_1 : decode cX8_row 1 = .ok (.getfield 21, 3) := by decide +kernel
theorem dX8_row_4 : decode cX8_row 4 = .ok (.iload_n 1, 1) := by decide +kernel
theorem dX8_row_5 : decode cX8_row 5 = .ok (.invokevirtual 137, 3) := by decide +kernel
theorem dX8_row_8 : decode cX8_row 8 = .ok (.ifCond .eq 22, 3) := by decide +kernel
theorem dX8_row_11 : decode cX8_row 11 = .ok (.iload_n 2, 1) := by decide +kernel
theorem dX8_row_12 : decode cX8_row 12 = .ok (.invokestatic 140, 3) := by decide +kernel
theorem dX8_row_15 : decode cX8_row 15 = .ok (.ifCond .eq 15, 3) := by decide +kernel
theorem dX8_row_18 : decode cX8_row 18 = .ok (.aload_n 0, 1) := by decide +kernel
theorem dX8_row_19 : decode cX8_row 19 = .ok (.getfield 21, 3) := by decide +kernel
theorem dX8_row_22 : decode cX8_row 22 = .ok (.iload_n 2, 1) := by decide +kernel
theorem dX8_row_23 : decode cX8_row 23 = .ok (.iload_n 1, 1) := by decide +kernel
theorem dX8_row_24 : decode cX8_row 24 = .ok (.invokevirtual 143, 3) := by decide +kernel
theorem dX8_row_27 : decode cX8_row 27 = .ok (.goto 4, 3) := by decide +kernel
theorem dX8_row_30 : decode cX8_row 30 = .ok (.iconst (-1), 1) := by decide +kernel
theorem dX8_row_31 : decode cX8_row 31 = .ok (.ireturn, 1) := by decide +kernel
theorem dX8_change_0 : decode cX8_change 0 = .ok (.aload_n 0, 1) := by decide +kernel
theorem dX8_change_1 : decode cX8_change 1 = .ok (.getfield 21, 3) := by decide +kernel
theorem dX8_change_4 : decode cX8_change 4 = .ok (.iload_n 1, 1) := by decide +kernel
theorem dX8_change_5 : decode cX8_change 5 = .ok (.invokevirtual 137, 3) := by decide +kernel
theorem dX8_change_8 : decode cX8_change 8 = .ok (.ifCond .eq 22, 3) := by decide +kernel
theorem dX8_change_11 : decode cX8_change 11 = .ok (.iload_n 2, 1) := by decide +kernel
theorem dX8_change_12 : decode cX8_change 12 = .ok (.invokestatic 140, 3) := by decide +kernel
theorem dX8_change_15 : decode cX8_change 15 = .ok (.ifCond .eq 15, 3) := by decide +kernel
theorem dX8_change_18 : decode cX8_change 18 = .ok (.aload_n 0, 1) := by decide +kernel
theorem dX8_change_19 : decode cX8_change 19 = .ok (.getfield 21, 3) := by decide +kernel
theorem dX8_change_22 : decode cX8_change 22 = .ok (.iload_n 2, 1) := by decide +kernel
theorem dX8_change_23 : decode cX8_change 23 = .ok (.iload_n 3, 1) := by decide +kernel
theorem dX8_change_24 : decode cX8_change 24 = .ok (.invokevirtual 130, 3) := by decide +kernel
theorem dX8_change_27 : decode cX8_change 27 = .ok (.ifCond .ne 5, 3) := by decide +kernel
theorem dX8_change_30 : decode cX8_change 30 = .ok (.iconst (-1), 1) := by decide +kernel
theorem dX8_change_31 : decode cX8_change 31 = .ok (.ireturn, 1) := by decide +kernel
theorem dX8_change_32 : decode cX8_change 32 = .ok (.aload_n 0, 1) := by decide +kernel
theorem dX8_change_33 : decode cX8_change 33 = .ok (.getfield 21, 3) := by decide +kernel
theorem dX8_change_36 : decode cX8_change 36 = .ok (.iload_n 2, 1) := by decide +kernel
theorem dX8_change_37 : decode cX8_change 37 = .ok (.iload_n 1, 1) := by decide +kernel
theorem dX8_change_38 : decode cX8_change 38 = .ok (.iload_n 3, 1) := by decide +kernel
theorem dX8_change_39 : decode cX8_change 39 = .ok (.invokevirtual 147, 3) := by decide +kernel
theorem dX8_change_42 : decode cX8_change 42 = .ok (.iconst 1, 1) := by decide +kernel
theorem dX8_change_43 : decode cX8_change 43 = .ok (.ireturn, 1) := by decide +kernel
theorem dX8_drop_0 : decode cX8_drop 0 = .ok (.aload_n 0, 1) := by decide +kernel
theorem dX8_drop_1 : decode cX8_drop 1 = .ok (.getfield 21, 3) := by decide +kernel
theorem dX8_drop_4 : decode cX8_drop 4 = .ok (.iload_n 1, 1) := by decide +kernel
theorem dX8_drop_5 : decode cX8_drop 5 = .ok (.invokevirtual 137, 3) := by decide +kernel
theorem dX8_drop_8 : decode cX8_drop 8 = .ok (.ifCond .ne 5, 3) := by decide +kernel
theorem dX8_drop_11 : decode cX8_drop 11 = .ok (.iconst (-1), 1) := by decide +kernel
theorem dX8_drop_12 : decode cX8_drop 12 = .ok (.ireturn, 1) := by decide +kernel
theorem dX8_drop_13 : decode cX8_drop 13 = .ok (.aload_n 0, 1) := by decide +kernel
theorem dX8_drop_14 : decode cX8_drop 14 = .ok (.getfield 21, 3) := by decide +kernel
theorem dX8_drop_17 : decode cX8_drop 17 = .ok (.iload_n 1, 1) := by decide +kernel
theorem dX8_drop_18 : decode cX8_drop 18 = .ok (.invokevirtual 150, 3) := by decide +kernel
theorem dX8_drop_21 : decode cX8_drop 21 = .ok (.aload_n 0, 1) := by decide +kernel
theorem dX8_drop_22 : decode cX8_drop 22 = .ok (.getfield 21, 3) := by decide +kernel
theorem dX8_drop_25 : decode cX8_drop 25 = .ok (.getfield 119, 3) := by decide +kernel
theorem dX8_drop_28 : decode cX8_drop 28 = .ok (.ireturn, 1) := by decide +kernel
theorem dX8_plain_0 : decode cX8_plain 0 = .ok (.aload_n 0, 1) := by decide +kernel
theorem dX8_plain_1 : decode cX8_plain 1 = .ok (.getfield 21, 3) := by decide +kernel
theorem dX8_plain_4 : decode cX8_plain 4 = .ok (.invokevirtual 122, 3) := by decide +kernel
theorem dX8_plain_7 : decode cX8_plain 7 = .ok (.bipush 40, 2) := by decide +kernel
theorem dX8_plain_9 : decode cX8_plain 9 = .ok (.if_icmp .le 6, 3) := by decide +kernel
theorem dX8_plain_12 : decode cX8_plain 12 = .ok (.bipush (-2), 2) := by decide +kernel
theorem dX8_plain_14 : decode cX8_plain 14 = .ok (.ireturn, 1) := by decide +kernel
theorem dX8_plain_15 : decode cX8_plain 15 = .ok (.aload_n 0, 1) := by decide +kernel
theorem dX8_plain_16 : decode cX8_plain 16 = .ok (.getfield 21, 3) := by decide +kernel
theorem dX8_plain_19 : decode cX8_plain 19 = .ok (.invokevirtual 153, 3) := by decide +kernel
theorem dX8_plain_22 : decode cX8_plain 22 = .ok (.aload_n 0, 1) := by decide +kernel
theorem dX8_plain_23 : decode cX8_plain 23 = .ok (.getfield 21, 3) := by decide +kernel
theorem dX8_plain_26 : decode cX8_plain 26 = .ok (.getfield 119, 3) := by decide +kernel
theorem dX8_plain_29 : decode cX8_plain 29 = .ok (.ireturn, 1) := by decide +kernel
theorem dX8_makes_0 : decode cX8_makes 0 = .ok (.aload_n 0, 1) := by decide +kernel
theorem dX8_makes_1 : decode cX8_makes 1 = .ok (.getfield 57, 3) := by decide +kernel
theorem dX8_makes_4 : decode cX8_makes 4 = .ok (.aload_n 0, 1) := by decide +kernel
theorem dX8_makes_5 : decode cX8_makes 5 = .ok (.getfield 21, 3) := by decide +kernel
theorem dX8_makes_8 : decode cX8_makes 8 = .ok (.iconst 0, 1) := by decide +kernel
theorem dX8_makes_9 : decode cX8_makes 9 = .ok (.invokevirtual 156, 3) := by decide +kernel
theorem dX8_makes_12 : decode cX8_makes 12 = .ok (.iconst (-1), 1) := by decide +kernel
theorem dX8_makes_13 : decode cX8_makes 13 = .ok (.if_icmp .ne 7, 3) := by decide +kernel
theorem dX8_makes_16 : decode cX8_makes 16 = .ok (.iconst 1, 1) := by decide +kernel
theorem dX8_makes_17 : decode cX8_makes 17 = .ok (.goto 4, 3) := by decide +kernel
theorem dX8_makes_20 : decode cX8_makes 20 = .ok (.iconst 0, 1) := by decide +kernel
theorem dX8_makes_21 : decode cX8_makes 21 = .ok (.ireturn, 1) := by decide +kernel
theorem dX8_off_0 : decode cX8_off 0 = .ok (.iload_n 1, 1) := by decide +kernel
theorem dX8_off_1 : decode cX8_off 1 = .ok (.ifCond .ge 7, 3) := by decide +kernel
theorem dX8_off_4 : decode cX8_off 4 = .ok (.iconst (-1), 1) := by decide +kernel
theorem dX8_off_5 : decode cX8_off 5 = .ok (.goto 15, 3) := by decide +kernel
theorem dX8_off_8 : decode cX8_off 8 = .ok (.aload_n 0, 1) := by decide +kernel
theorem dX8_off_9 : decode cX8_off 9 = .ok (.getfield 57, 3) := by decide +kernel
theorem dX8_off_12 : decode cX8_off 12 = .ok (.aload_n 0, 1) := by decide +kernel
theorem dX8_off_13 : decode cX8_off 13 = .ok (.getfield 21, 3) := by decide +kernel
theorem dX8_off_16 : decode cX8_off 16 = .ok (.iload_n 1, 1) := by decide +kernel
theorem dX8_off_17 : decode cX8_off 17 = .ok (.invokevirtual 156, 3) := by decide +kernel
theorem dX8_off_20 : decode cX8_off 20 = .ok (.ireturn, 1) := by decide +kernel
theorem dX8_less_0 : decode cX8_less 0 = .ok (.aload_n 0, 1) := by decide +kernel
theorem dX8_less_1 : decode cX8_less 1 = .ok (.getfield 43, 3) := by decide +kernel
theorem dX8_less_4 : decode cX8_less 4 = .ok (.aload_n 0, 1) := by decide +kernel
theorem dX8_less_5 : decode cX8_less 5 = .ok (.getfield 21, 3) := by decide +kernel
theorem dX8_less_8 : decode cX8_less 8 = .ok (.invokevirtual 160, 3) := by decide +kernel
theorem dX8_less_11 : decode cX8_less 11 = .ok (.ireturn, 1) := by decide +kernel
theorem dX8_move_0 : decode cX8_move 0 = .ok (.iload_n 1, 1) := by decide +kernel
theorem dX8_move_1 : decode cX8_move 1 = .ok (.invokestatic 140, 3) := by decide +kernel
theorem dX8_move_4 : decode cX8_move 4 = .ok (.ifCond .eq 30, 3) := by decide +kernel
theorem dX8_move_7 : decode cX8_move 7 = .ok (.aload_n 0, 1) := by decide +kernel
theorem dX8_move_8 : decode cX8_move 8 = .ok (.getfield 21, 3) := by decide +kernel
theorem dX8_move_11 : decode cX8_move 11 = .ok (.iload_n 2, 1) := by decide +kernel
theorem dX8_move_12 : decode cX8_move 12 = .ok (.invokevirtual 137, 3) := by decide +kernel
theorem dX8_move_15 : decode cX8_move 15 = .ok (.ifCond .eq 19, 3) := by decide +kernel
theorem dX8_move_18 : decode cX8_move 18 = .ok (.aload_n 0, 1) := by decide +kernel
theorem dX8_move_19 : decode cX8_move 19 = .ok (.getfield 21, 3) := by decide +kernel
theorem dX8_move_22 : decode cX8_move 22 = .ok (.iload_n 3, 1) := by decide +kernel
theorem dX8_move_23 : decode cX8_move 23 = .ok (.invokevirtual 137, 3) := by decide +kernel
theorem dX8_move_26 : decode cX8_move 26 = .ok (.ifCond .eq 8, 3) := by decide +kernel
theorem dX8_move_29 : decode cX8_move 29 = .ok (.iload_n 2, 1) := by decide +kernel
theorem dX8_move_30 : decode cX8_move 30 = .ok (.iload_n 3, 1) := by decide +kernel
theorem dX8_move_31 : decode cX8_move 31 = .ok (.if_icmp .ne 5, 3) := by decide +kernel
theorem dX8_move_34 : decode cX8_move 34 = .ok (.iconst (-1), 1) := by decide +kernel
theorem dX8_move_35 : decode cX8_move 35 = .ok (.ireturn, 1) := by decide +kernel
theorem dX8_move_36 : decode cX8_move 36 = .ok (.aload_n 0, 1) := by decide +kernel
theorem dX8_move_37 : decode cX8_move 37 = .ok (.getfield 21, 3) := by decide +kernel
theorem dX8_move_40 : decode cX8_move 40 = .ok (.iload_n 1, 1) := by decide +kernel
theorem dX8_move_41 : decode cX8_move 41 = .ok (.iload_n 2, 1) := by decide +kernel
theorem dX8_move_42 : decode cX8_move 42 = .ok (.iload_n 3, 1) := by decide +kernel
theorem dX8_move_43 : decode cX8_move 43 = .ok (.invokevirtual 163, 3) := by decide +kernel
theorem dX8_move_46 : decode cX8_move 46 = .ok (.ifCond .ne 6, 3) := by decide +kernel
theorem dX8_move_49 : decode cX8_move 49 = .ok (.bipush (-4), 2) := by decide +kernel
theorem dX8_move_51 : decode cX8_move 51 = .ok (.ireturn, 1) := by decide +kernel
theorem dX8_move_52 : decode cX8_move 52 = .ok (.aload_n 0, 1) := by decide +kernel
theorem dX8_move_53 : decode cX8_move 53 = .ok (.getfield 43, 3) := by decide +kernel
theorem dX8_move_56 : decode cX8_move 56 = .ok (.aload_n 0, 1) := by decide +kernel
theorem dX8_move_57 : decode cX8_move 57 = .ok (.getfield 21, 3) := by decide +kernel
theorem dX8_move_60 : decode cX8_move 60 = .ok (.iload_n 1, 1) := by decide +kernel
theorem dX8_move_61 : decode cX8_move 61 = .ok (.iload_n 2, 1) := by decide +kernel
theorem dX8_move_62 : decode cX8_move 62 = .ok (.iload_n 3, 1) := by decide +kernel
theorem dX8_move_63 : decode cX8_move 63 = .ok (.invokevirtual 166, 3) := by decide +kernel
theorem dX8_move_66 : decode cX8_move 66 = .ok (.iconst 1, 1) := by decide +kernel
theorem dX8_move_67 : decode cX8_move 67 = .ok (.ireturn, 1) := by decide +kernel
theorem dX8_walk_0 : decode cX8_walk 0 = .ok (.iload_n 2, 1) := by decide +kernel
theorem dX8_walk_1 : decode cX8_walk 1 = .ok (.ifCond .lt 10, 3) := by decide +kernel
theorem dX8_walk_4 : decode cX8_walk 4 = .ok (.iload_n 2, 1) := by decide +kernel
theorem dX8_walk_5 : decode cX8_walk 5 = .ok (.sipush 200, 3) := by decide +kernel
theorem dX8_walk_8 : decode cX8_walk 8 = .ok (.if_icmp .le 5, 3) := by decide +kernel
theorem dX8_walk_11 : decode cX8_walk 11 = .ok (.iconst (-1), 1) := by decide +kernel
theorem dX8_walk_12 : decode cX8_walk 12 = .ok (.ireturn, 1) := by decide +kernel
theorem dX8_walk_13 : decode cX8_walk 13 = .ok (.iload_n 1, 1) := by decide +kernel
theorem dX8_walk_14 : decode cX8_walk 14 = .ok (.istore_n 3, 1) := by decide +kernel
theorem dX8_walk_15 : decode cX8_walk 15 = .ok (.iconst 0, 1) := by decide +kernel
theorem dX8_walk_16 : decode cX8_walk 16 = .ok (.istore 4, 2) := by decide +kernel
theorem dX8_walk_18 : decode cX8_walk 18 = .ok (.iload 4, 2) := by decide +kernel
theorem dX8_walk_20 : decode cX8_walk 20 = .ok (.iload_n 2, 1) := by decide +kernel
theorem dX8_walk_21 : decode cX8_walk 21 = .ok (.if_icmp .ge 69, 3) := by decide +kernel
theorem dX8_walk_24 : decode cX8_walk 24 = .ok (.aload_n 0, 1) := by decide +kernel
theorem dX8_walk_25 : decode cX8_walk 25 = .ok (.getfield 43, 3) := by decide +kernel
theorem dX8_walk_28 : decode cX8_walk 28 = .ok (.aload_n 0, 1) := by decide +kernel
theorem dX8_walk_29 : decode cX8_walk 29 = .ok (.getfield 21, 3) := by decide +kernel
theorem dX8_walk_32 : decode cX8_walk 32 = .ok (.invokevirtual 126, 3) := by decide +kernel
theorem dX8_walk_35 : decode cX8_walk 35 = .ok (.istore 5, 2) := by decide +kernel
theorem dX8_walk_37 : decode cX8_walk 37 = .ok (.iload 5, 2) := by decide +kernel
theorem dX8_walk_39 : decode cX8_walk 39 = .ok (.ifCond .ne 6, 3) := by decide +kernel
theorem dX8_walk_42 : decode cX8_walk 42 = .ok (.goto 48, 3) := by decide +kernel
theorem dX8_walk_45 : decode cX8_walk 45 = .ok (.ldc 170, 2) := by decide +kernel
theorem dX8_walk_47 : decode cX8_walk 47 = .ok (.iload_n 3, 1) := by decide +kernel
theorem dX8_walk_48 : decode cX8_walk 48 = .ok (.imul, 1) := by decide +kernel
theorem dX8_walk_49 : decode cX8_walk 49 = .ok (.sipush 12345, 3) := by decide +kernel
theorem dX8_walk_52 : decode cX8_walk 52 = .ok (.iadd, 1) := by decide +kernel
theorem dX8_walk_53 : decode cX8_walk 53 = .ok (.istore_n 3, 1) := by decide +kernel
theorem dX8_walk_54 : decode cX8_walk 54 = .ok (.aload_n 0, 1) := by decide +kernel
theorem dX8_walk_55 : decode cX8_walk 55 = .ok (.getfield 43, 3) := by decide +kernel
theorem dX8_walk_58 : decode cX8_walk 58 = .ok (.aload_n 0, 1) := by decide +kernel
theorem dX8_walk_59 : decode cX8_walk 59 = .ok (.getfield 21, 3) := by decide +kernel
theorem dX8_walk_62 : decode cX8_walk 62 = .ok (.iload_n 3, 1) := by decide +kernel
theorem dX8_walk_63 : decode cX8_walk 63 = .ok (.bipush 16, 2) := by decide +kernel
theorem dX8_walk_65 : decode cX8_walk 65 = .ok (.iushr, 1) := by decide +kernel
theorem dX8_walk_66 : decode cX8_walk 66 = .ok (.iload 5, 2) := by decide +kernel
theorem dX8_walk_68 : decode cX8_walk 68 = .ok (.irem, 1) := by decide +kernel
theorem dX8_walk_69 : decode cX8_walk 69 = .ok (.invokevirtual 171, 3) := by decide +kernel
theorem dX8_walk_72 : decode cX8_walk 72 = .ok (.aload_n 0, 1) := by decide +kernel
theorem dX8_walk_73 : decode cX8_walk 73 = .ok (.getfield 43, 3) := by decide +kernel
theorem dX8_walk_76 : decode cX8_walk 76 = .ok (.aload_n 0, 1) := by decide +kernel
theorem dX8_walk_77 : decode cX8_walk 77 = .ok (.getfield 21, 3) := by decide +kernel
theorem dX8_walk_80 : decode cX8_walk 80 = .ok (.invokevirtual 160, 3) := by decide +kernel
theorem dX8_walk_83 : decode cX8_walk 83 = .ok (.pop, 1) := by decide +kernel
theorem dX8_walk_84 : decode cX8_walk 84 = .ok (.iinc 4 1, 3) := by decide +kernel
theorem dX8_walk_87 : decode cX8_walk 87 = .ok (.goto (-69), 3) := by decide +kernel
theorem dX8_walk_90 : decode cX8_walk 90 = .ok (.aload_n 0, 1) := by decide +kernel
theorem dX8_walk_91 : decode cX8_walk 91 = .ok (.getfield 21, 3) := by decide +kernel
theorem dX8_walk_94 : decode cX8_walk 94 = .ok (.getfield 119, 3) := by decide +kernel
theorem dX8_walk_97 : decode cX8_walk 97 = .ok (.ireturn, 1) := by decide +kernel
theorem dX8_around_0 : decode cX8_around 0 = .ok (.aload_n 0, 1) := by decide +kernel
theorem dX8_around_1 : decode cX8_around 1 = .ok (.getfield 50, 3) := by decide +kernel
theorem dX8_around_4 : decode cX8_around 4 = .ok (.aload_n 0, 1) := by decide +kernel
theorem dX8_around_5 : decode cX8_around 5 = .ok (.getfield 21, 3) := by decide +kernel
theorem dX8_around_8 : decode cX8_around 8 = .ok (.aload_n 0, 1) := by decide +kernel
theorem dX8_around_9 : decode cX8_around 9 = .ok (.getfield 25, 3) := by decide +kernel
theorem dX8_around_12 : decode cX8_around 12 = .ok (.invokevirtual 175, 3) := by decide +kernel
theorem dX8_around_15 : decode cX8_around 15 = .ok (.aload_n 0, 1) := by decide +kernel
theorem dX8_around_16 : decode cX8_around 16 = .ok (.invokevirtual 179, 3) := by decide +kernel
theorem dX8_around_19 : decode cX8_around 19 = .ok (.iconst 1, 1) := by decide +kernel
theorem dX8_around_20 : decode cX8_around 20 = .ok (.ireturn, 1) := by decide +kernel
theorem dX8_turn_0 : decode cX8_turn 0 = .ok (.iload_n 1, 1) := by decide +kernel
theorem dX8_turn_1 : decode cX8_turn 1 = .ok (.invokestatic 140, 3) := by decide +kernel
theorem dX8_turn_4 : decode cX8_turn 4 = .ok (.ifCond .eq 27, 3) := by decide +kernel
theorem dX8_turn_7 : decode cX8_turn 7 = .ok (.aload_n 0, 1) := by decide +kernel
theorem dX8_turn_8 : decode cX8_turn 8 = .ok (.getfield 21, 3) := by decide +kernel
theorem dX8_turn_11 : decode cX8_turn 11 = .ok (.iload_n 1, 1) := by decide +kernel
theorem dX8_turn_12 : decode cX8_turn 12 = .ok (.iload_n 2, 1) := by decide +kernel
theorem dX8_turn_13 : decode cX8_turn 13 = .ok (.invokevirtual 182, 3) := by decide +kernel
theorem dX8_turn_16 : decode cX8_turn 16 = .ok (.ifCond .eq 15, 3) := by decide +kernel
theorem dX8_turn_19 : decode cX8_turn 19 = .ok (.aload_n 0, 1) := by decide +kernel
theorem dX8_turn_20 : decode cX8_turn 20 = .ok (.getfield 21, 3) := by decide +kernel
theorem dX8_turn_23 : decode cX8_turn 23 = .ok (.iload_n 1, 1) := by decide +kernel
theorem dX8_turn_24 : decode cX8_turn 24 = .ok (.iload_n 3, 1) := by decide +kernel
theorem dX8_turn_25 : decode cX8_turn 25 = .ok (.invokevirtual 182, 3) := by decide +kernel
theorem dX8_turn_28 : decode cX8_turn 28 = .ok (.ifCond .ne 5, 3) := by decide +kernel
theorem dX8_turn_31 : decode cX8_turn 31 = .ok (.iconst (-1), 1) := by decide +kernel
theorem dX8_turn_32 : decode cX8_turn 32 = .ok (.ireturn, 1) := by decide +kernel
theorem dX8_turn_33 : decode cX8_turn 33 = .ok (.iload_n 2, 1) := by decide +kernel
theorem dX8_turn_34 : decode cX8_turn 34 = .ok (.iload_n 3, 1) := by decide +kernel
theorem dX8_turn_35 : decode cX8_turn 35 = .ok (.if_icmp .eq 15, 3) := by decide +kernel
theorem dX8_turn_38 : decode cX8_turn 38 = .ok (.aload_n 0, 1) := by decide +kernel
theorem dX8_turn_39 : decode cX8_turn 39 = .ok (.getfield 12, 3) := by decide +kernel
theorem dX8_turn_42 : decode cX8_turn 42 = .ok (.iload 4, 2) := by decide +kernel
theorem dX8_turn_44 : decode cX8_turn 44 = .ok (.invokevirtual 105, 3) := by decide +kernel
theorem dX8_turn_47 : decode cX8_turn 47 = .ok (.ifCond .ne 5, 3) := by decide +kernel
theorem dX8_turn_50 : decode cX8_turn 50 = .ok (.iconst (-1), 1) := by decide +kernel
theorem dX8_turn_51 : decode cX8_turn 51 = .ok (.ireturn, 1) := by decide +kernel
theorem dX8_turn_52 : decode cX8_turn 52 = .ok (.aload_n 0, 1) := by decide +kernel
theorem dX8_turn_53 : decode cX8_turn 53 = .ok (.getfield 21, 3) := by decide +kernel
theorem dX8_turn_56 : decode cX8_turn 56 = .ok (.iload_n 1, 1) := by decide +kernel
theorem dX8_turn_57 : decode cX8_turn 57 = .ok (.iload_n 2, 1) := by decide +kernel
theorem dX8_turn_58 : decode cX8_turn 58 = .ok (.iload_n 3, 1) := by decide +kernel
theorem dX8_turn_59 : decode cX8_turn 59 = .ok (.iload 4, 2) := by decide +kernel
theorem dX8_turn_61 : decode cX8_turn 61 = .ok (.invokevirtual 185, 3) := by decide +kernel
theorem dX8_turn_64 : decode cX8_turn 64 = .ok (.iconst 1, 1) := by decide +kernel
theorem dX8_turn_65 : decode cX8_turn 65 = .ok (.ireturn, 1) := by decide +kernel
theorem dX8_rank_0 : decode cX8_rank 0 = .ok (.iload_n 1, 1) := by decide +kernel
theorem dX8_rank_1 : decode cX8_rank 1 = .ok (.iconst 3, 1) := by decide +kernel
theorem dX8_rank_2 : decode cX8_rank 2 = .ok (.if_icmp .ne 25, 3) := by decide +kernel
theorem dX8_rank_5 : decode cX8_rank 5 = .ok (.aload_n 0, 1) := by decide +kernel
theorem dX8_rank_6 : decode cX8_rank 6 = .ok (.iconst 0, 1) := by decide +kernel
theorem dX8_rank_7 : decode cX8_rank 7 = .ok (.invokevirtual 188, 3) := by decide +kernel
theorem dX8_rank_10 : decode cX8_rank 10 = .ok (.aload_n 0, 1) := by decide +kernel
theorem dX8_rank_11 : decode cX8_rank 11 = .ok (.iconst 1, 1) := by decide +kernel
theorem dX8_rank_12 : decode cX8_rank 12 = .ok (.invokevirtual 188, 3) := by decide +kernel
theorem dX8_rank_15 : decode cX8_rank 15 = .ok (.aload_n 0, 1) := by decide +kernel
theorem dX8_rank_16 : decode cX8_rank 16 = .ok (.iconst 2, 1) := by decide +kernel
theorem dX8_rank_17 : decode cX8_rank 17 = .ok (.invokevirtual 188, 3) := by decide +kernel
theorem dX8_rank_20 : decode cX8_rank 20 = .ok (.invokestatic 192, 3) := by decide +kernel
theorem dX8_rank_23 : decode cX8_rank 23 = .ok (.invokestatic 192, 3) := by decide +kernel
theorem dX8_rank_26 : decode cX8_rank 26 = .ok (.ireturn, 1) := by decide +kernel
theorem dX8_rank_27 : decode cX8_rank 27 = .ok (.iload_n 1, 1) := by decide +kernel
theorem dX8_rank_28 : decode cX8_rank 28 = .ok (.invokestatic 140, 3) := by decide +kernel
theorem dX8_rank_31 : decode cX8_rank 31 = .ok (.ifCond .eq 11, 3) := by decide +kernel
theorem dX8_rank_34 : decode cX8_rank 34 = .ok (.aload_n 0, 1) := by decide +kernel
theorem dX8_rank_35 : decode cX8_rank 35 = .ok (.iload_n 1, 1) := by decide +kernel
theorem dX8_rank_36 : decode cX8_rank 36 = .ok (.invokevirtual 188, 3) := by decide +kernel
theorem dX8_rank_39 : decode cX8_rank 39 = .ok (.goto 4, 3) := by decide +kernel
theorem dX8_rank_42 : decode cX8_rank 42 = .ok (.iconst (-1), 1) := by decide +kernel
theorem dX8_rank_43 : decode cX8_rank 43 = .ok (.ireturn, 1) := by decide +kernel
theorem dX8_least_0 : decode cX8_least 0 = .ok (.aload_n 0, 1) := by decide +kernel
theorem dX8_least_1 : decode cX8_least 1 = .ok (.getfield 71, 3) := by decide +kernel
theorem dX8_least_4 : decode cX8_least 4 = .ok (.aload_n 0, 1) := by decide +kernel
theorem dX8_least_5 : decode cX8_least 5 = .ok (.getfield 21, 3) := by decide +kernel
theorem dX8_least_8 : decode cX8_least 8 = .ok (.invokevirtual 197, 3) := by decide +kernel
theorem dX8_least_11 : decode cX8_least 11 = .ok (.ireturn, 1) := by decide +kernel
theorem dX8_find_0 : decode cX8_find 0 = .ok (.aload_n 0, 1) := by decide +kernel
theorem dX8_find_1 : decode cX8_find 1 = .ok (.getfield 71, 3) := by decide +kernel
theorem dX8_find_4 : decode cX8_find 4 = .ok (.aload_n 0, 1) := by decide +kernel
theorem dX8_find_5 : decode cX8_find 5 = .ok (.getfield 21, 3) := by decide +kernel
theorem dX8_find_8 : decode cX8_find 8 = .ok (.invokevirtual 197, 3) := by decide +kernel
theorem dX8_find_11 : decode cX8_find 11 = .ok (.istore_n 1, 1) := by decide +kernel
theorem dX8_find_12 : decode cX8_find 12 = .ok (.iload_n 1, 1) := by decide +kernel
theorem dX8_find_13 : decode cX8_find 13 = .ok (.ifCond .lt 15, 3) := by decide +kernel
theorem dX8_find_16 : decode cX8_find 16 = .ok (.aload_n 0, 1) := by decide +kernel
theorem dX8_find_17 : decode cX8_find 17 = .ok (.getfield 71, 3) := by decide +kernel
theorem dX8_find_20 : decode cX8_find 20 = .ok (.aload_n 0, 1) := by decide +kernel
theorem dX8_find_21 : decode cX8_find 21 = .ok (.getfield 21, 3) := by decide +kernel
theorem dX8_find_24 : decode cX8_find 24 = .ok (.iload_n 1, 1) := by decide +kernel
theorem dX8_find_25 : decode cX8_find 25 = .ok (.invokevirtual 200, 3) := by decide +kernel
theorem dX8_find_28 : decode cX8_find 28 = .ok (.iload_n 1, 1) := by decide +kernel
theorem dX8_find_29 : decode cX8_find 29 = .ok (.ireturn, 1) := by decide +kernel
theorem dX8_hand_0 : decode cX8_hand 0 = .ok (.iload_n 1, 1) := by decide +kernel
theorem dX8_hand_1 : decode cX8_hand 1 = .ok (.ifCond .eq 10, 3) := by decide +kernel
theorem dX8_hand_4 : decode cX8_hand 4 = .ok (.iload_n 1, 1) := by decide +kernel
theorem dX8_hand_5 : decode cX8_hand 5 = .ok (.iconst 1, 1) := by decide +kernel
theorem dX8_hand_6 : decode cX8_hand 6 = .ok (.if_icmp .eq 5, 3) := by decide +kernel
theorem dX8_hand_9 : decode cX8_hand 9 = .ok (.iconst (-1), 1) := by decide +kernel
theorem dX8_hand_10 : decode cX8_hand 10 = .ok (.ireturn, 1) := by decide +kernel
theorem dX8_hand_11 : decode cX8_hand 11 = .ok (.aload_n 0, 1) := by decide +kernel
theorem dX8_hand_12 : decode cX8_hand 12 = .ok (.getfield 21, 3) := by decide +kernel
theorem dX8_hand_15 : decode cX8_hand 15 = .ok (.iload_n 1, 1) := by decide +kernel
theorem dX8_hand_16 : decode cX8_hand 16 = .ok (.iload_n 2, 1) := by decide +kernel
theorem dX8_hand_17 : decode cX8_hand 17 = .ok (.invokevirtual 182, 3) := by decide +kernel
theorem dX8_hand_20 : decode cX8_hand 20 = .ok (.ifCond .eq 14, 3) := by decide +kernel
theorem dX8_hand_23 : decode cX8_hand 23 = .ok (.aload_n 0, 1) := by decide +kernel
theorem dX8_hand_24 : decode cX8_hand 24 = .ok (.getfield 12, 3) := by decide +kernel
theorem dX8_hand_27 : decode cX8_hand 27 = .ok (.iload_n 3, 1) := by decide +kernel
theorem dX8_hand_28 : decode cX8_hand 28 = .ok (.invokevirtual 105, 3) := by decide +kernel
theorem dX8_hand_31 : decode cX8_hand 31 = .ok (.ifCond .ne 5, 3) := by decide +kernel
theorem dX8_hand_34 : decode cX8_hand 34 = .ok (.iconst (-1), 1) := by decide +kernel
theorem dX8_hand_35 : decode cX8_hand 35 = .ok (.ireturn, 1) := by decide +kernel
theorem dX8_hand_36 : decode cX8_hand 36 = .ok (.aload_n 0, 1) := by decide +kernel
theorem dX8_hand_37 : decode cX8_hand 37 = .ok (.getfield 36, 3) := by decide +kernel
theorem dX8_hand_40 : decode cX8_hand 40 = .ok (.iload_n 1, 1) := by decide +kernel
theorem dX8_hand_41 : decode cX8_hand 41 = .ok (.aload_n 0, 1) := by decide +kernel
theorem dX8_hand_42 : decode cX8_hand 42 = .ok (.getfield 12, 3) := by decide +kernel
theorem dX8_hand_45 : decode cX8_hand 45 = .ok (.aload_n 0, 1) := by decide +kernel
theorem dX8_hand_46 : decode cX8_hand 46 = .ok (.getfield 36, 3) := by decide +kernel
theorem dX8_hand_49 : decode cX8_hand 49 = .ok (.iload_n 1, 1) := by decide +kernel
theorem dX8_hand_50 : decode cX8_hand 50 = .ok (.iaload, 1) := by decide +kernel
theorem dX8_hand_51 : decode cX8_hand 51 = .ok (.iload_n 2, 1) := by decide +kernel
theorem dX8_hand_52 : decode cX8_hand 52 = .ok (.iload_n 3, 1) := by decide +kernel
theorem dX8_hand_53 : decode cX8_hand 53 = .ok (.invokevirtual 203, 3) := by decide +kernel
theorem dX8_hand_56 : decode cX8_hand 56 = .ok (.iastore, 1) := by decide +kernel
theorem dX8_hand_57 : decode cX8_hand 57 = .ok (.iconst 1, 1) := by decide +kernel
theorem dX8_hand_58 : decode cX8_hand 58 = .ok (.ireturn, 1) := by decide +kernel
theorem dX8_run_0 : decode cX8_run 0 = .ok (.iload_n 1, 1) := by decide +kernel
theorem dX8_run_1 : decode cX8_run 1 = .ok (.lookupswitch 75 #[(0, 27), (1, 51)], 27) := by decide +kernel
theorem dX8_run_28 : decode cX8_run 28 = .ok (.aload_n 0, 1) := by decide +kernel
theorem dX8_run_29 : decode cX8_run 29 = .ok (.getfield 57, 3) := by decide +kernel
theorem dX8_run_32 : decode cX8_run 32 = .ok (.aload_n 0, 1) := by decide +kernel
theorem dX8_run_33 : decode cX8_run 33 = .ok (.getfield 21, 3) := by decide +kernel
theorem dX8_run_36 : decode cX8_run 36 = .ok (.aload_n 0, 1) := by decide +kernel
theorem dX8_run_37 : decode cX8_run 37 = .ok (.getfield 36, 3) := by decide +kernel
theorem dX8_run_40 : decode cX8_run 40 = .ok (.iconst 0, 1) := by decide +kernel
theorem dX8_run_41 : decode cX8_run 41 = .ok (.iaload, 1) := by decide +kernel
theorem dX8_run_42 : decode cX8_run 42 = .ok (.aload_n 0, 1) := by decide +kernel
theorem dX8_run_43 : decode cX8_run 43 = .ok (.getfield 36, 3) := by decide +kernel
theorem dX8_run_46 : decode cX8_run 46 = .ok (.iconst 1, 1) := by decide +kernel
theorem dX8_run_47 : decode cX8_run 47 = .ok (.iaload, 1) := by decide +kernel
theorem dX8_run_48 : decode cX8_run 48 = .ok (.invokevirtual 206, 3) := by decide +kernel
theorem dX8_run_51 : decode cX8_run 51 = .ok (.ireturn, 1) := by decide +kernel
theorem dX8_run_52 : decode cX8_run 52 = .ok (.aload_n 0, 1) := by decide +kernel
theorem dX8_run_53 : decode cX8_run 53 = .ok (.getfield 57, 3) := by decide +kernel
theorem dX8_run_56 : decode cX8_run 56 = .ok (.aload_n 0, 1) := by decide +kernel
theorem dX8_run_57 : decode cX8_run 57 = .ok (.getfield 21, 3) := by decide +kernel
theorem dX8_run_60 : decode cX8_run 60 = .ok (.aload_n 0, 1) := by decide +kernel
theorem dX8_run_61 : decode cX8_run 61 = .ok (.getfield 36, 3) := by decide +kernel
theorem dX8_run_64 : decode cX8_run 64 = .ok (.iconst 0, 1) := by decide +kernel
theorem dX8_run_65 : decode cX8_run 65 = .ok (.iaload, 1) := by decide +kernel
theorem dX8_run_66 : decode cX8_run 66 = .ok (.aload_n 0, 1) := by decide +kernel
theorem dX8_run_67 : decode cX8_run 67 = .ok (.getfield 36, 3) := by decide +kernel
theorem dX8_run_70 : decode cX8_run 70 = .ok (.iconst 1, 1) := by decide +kernel
theorem dX8_run_71 : decode cX8_run 71 = .ok (.iaload, 1) := by decide +kernel
theorem dX8_run_72 : decode cX8_run 72 = .ok (.invokevirtual 210, 3) := by decide +kernel
theorem dX8_run_75 : decode cX8_run 75 = .ok (.ireturn, 1) := by decide +kernel
theorem dX8_run_76 : decode cX8_run 76 = .ok (.iconst (-1), 1) := by decide +kernel
theorem dX8_run_77 : decode cX8_run 77 = .ok (.ireturn, 1) := by decide +kernel
theorem dX8_sums_0 : decode cX8_sums 0 = .ok (.iload_n 1, 1) := by decide +kernel
theorem dX8_sums_1 : decode cX8_sums 1 = .ok (.ifCond .eq 10, 3) := by decide +kernel
theorem dX8_sums_4 : decode cX8_sums 4 = .ok (.iload_n 1, 1) := by decide +kernel
theorem dX8_sums_5 : decode cX8_sums 5 = .ok (.iconst 1, 1) := by decide +kernel
theorem dX8_sums_6 : decode cX8_sums 6 = .ok (.if_icmp .eq 5, 3) := by decide +kernel
theorem dX8_sums_9 : decode cX8_sums 9 = .ok (.iconst (-1), 1) := by decide +kernel
theorem dX8_sums_10 : decode cX8_sums 10 = .ok (.ireturn, 1) := by decide +kernel
theorem dX8_sums_11 : decode cX8_sums 11 = .ok (.iload_n 2, 1) := by decide +kernel
theorem dX8_sums_12 : decode cX8_sums 12 = .ok (.lookupswitch 54 #[(0, 28), (1, 41)], 28) := by decide +kernel
theorem dX8_sums_40 : decode cX8_sums 40 = .ok (.aload_n 0, 1) := by decide +kernel
theorem dX8_sums_41 : decode cX8_sums 41 = .ok (.getfield 78, 3) := by decide +kernel
theorem dX8_sums_44 : decode cX8_sums 44 = .ok (.aload_n 0, 1) := by decide +kernel
theorem dX8_sums_45 : decode cX8_sums 45 = .ok (.getfield 21, 3) := by decide +kernel
theorem dX8_sums_48 : decode cX8_sums 48 = .ok (.iload_n 1, 1) := by decide +kernel
theorem dX8_sums_49 : decode cX8_sums 49 = .ok (.invokevirtual 213, 3) := by decide +kernel
theorem dX8_sums_52 : decode cX8_sums 52 = .ok (.ireturn, 1) := by decide +kernel
theorem dX8_sums_53 : decode cX8_sums 53 = .ok (.aload_n 0, 1) := by decide +kernel
theorem dX8_sums_54 : decode cX8_sums 54 = .ok (.getfield 78, 3) := by decide +kernel
theorem dX8_sums_57 : decode cX8_sums 57 = .ok (.aload_n 0, 1) := by decide +kernel
theorem dX8_sums_58 : decode cX8_sums 58 = .ok (.getfield 21, 3) := by decide +kernel
theorem dX8_sums_61 : decode cX8_sums 61 = .ok (.iload_n 1, 1) := by decide +kernel
theorem dX8_sums_62 : decode cX8_sums 62 = .ok (.invokevirtual 216, 3) := by decide +kernel
theorem dX8_sums_65 : decode cX8_sums 65 = .ok (.ireturn, 1) := by decide +kernel
theorem dX8_sums_66 : decode cX8_sums 66 = .ok (.iconst (-1), 1) := by decide +kernel
theorem dX8_sums_67 : decode cX8_sums 67 = .ok (.ireturn, 1) := by decide +kernel
theorem dX8_keep_0 : decode cX8_keep 0 = .ok (.iload_n 1, 1) := by decide +kernel
theorem dX8_keep_1 : decode cX8_keep 1 = .ok (.invokestatic 219, 3) := by decide +kernel
theorem dX8_keep_4 : decode cX8_keep 4 = .ok (.ifCond .ne 5, 3) := by decide +kernel
theorem dX8_keep_7 : decode cX8_keep 7 = .ok (.iconst (-1), 1) := by decide +kernel
theorem dX8_keep_8 : decode cX8_keep 8 = .ok (.ireturn, 1) := by decide +kernel
theorem dX8_keep_9 : decode cX8_keep 9 = .ok (.aload_n 0, 1) := by decide +kernel
theorem dX8_keep_10 : decode cX8_keep 10 = .ok (.getfield 28, 3) := by decide +kernel
theorem dX8_keep_13 : decode cX8_keep 13 = .ok (.iload_n 1, 1) := by decide +kernel
theorem dX8_keep_14 : decode cX8_keep 14 = .ok (.aaload, 1) := by decide +kernel
theorem dX8_keep_15 : decode cX8_keep 15 = .ok (.aload_n 0, 1) := by decide +kernel
theorem dX8_keep_16 : decode cX8_keep 16 = .ok (.getfield 21, 3) := by decide +kernel
theorem dX8_keep_19 : decode cX8_keep 19 = .ok (.invokevirtual 222, 3) := by decide +kernel
theorem dX8_keep_22 : decode cX8_keep 22 = .ok (.aload_n 0, 1) := by decide +kernel
theorem dX8_keep_23 : decode cX8_keep 23 = .ok (.getfield 32, 3) := by decide +kernel
theorem dX8_keep_26 : decode cX8_keep 26 = .ok (.iload_n 1, 1) := by decide +kernel
theorem dX8_keep_27 : decode cX8_keep 27 = .ok (.iconst 1, 1) := by decide +kernel
theorem dX8_keep_28 : decode cX8_keep 28 = .ok (.bastore, 1) := by decide +kernel
theorem dX8_keep_29 : decode cX8_keep 29 = .ok (.iconst 1, 1) := by decide +kernel
theorem dX8_keep_30 : decode cX8_keep 30 = .ok (.ireturn, 1) := by decide +kernel
theorem dX8_back_0 : decode cX8_back 0 = .ok (.aload_n 0, 1) := by decide +kernel
theorem dX8_back_1 : decode cX8_back 1 = .ok (.iload_n 1, 1) := by decide +kernel
theorem dX8_back_2 : decode cX8_back 2 = .ok (.invokevirtual 226, 3) := by decide +kernel
theorem dX8_back_5 : decode cX8_back 5 = .ok (.istore_n 2, 1) := by decide +kernel
theorem dX8_back_6 : decode cX8_back 6 = .ok (.iload_n 2, 1) := by decide +kernel
theorem dX8_back_7 : decode cX8_back 7 = .ok (.ifCond .eq 5, 3) := by decide +kernel
theorem dX8_back_10 : decode cX8_back 10 = .ok (.iload_n 2, 1) := by decide +kernel
theorem dX8_back_11 : decode cX8_back 11 = .ok (.ireturn, 1) := by decide +kernel
theorem dX8_back_12 : decode cX8_back 12 = .ok (.aload_n 0, 1) := by decide +kernel
theorem dX8_back_13 : decode cX8_back 13 = .ok (.getfield 21, 3) := by decide +kernel
theorem dX8_back_16 : decode cX8_back 16 = .ok (.aload_n 0, 1) := by decide +kernel
theorem dX8_back_17 : decode cX8_back 17 = .ok (.getfield 28, 3) := by decide +kernel
theorem dX8_back_20 : decode cX8_back 20 = .ok (.iload_n 1, 1) := by decide +kernel
theorem dX8_back_21 : decode cX8_back 21 = .ok (.aaload, 1) := by decide +kernel
theorem dX8_back_22 : decode cX8_back 22 = .ok (.invokevirtual 222, 3) := by decide +kernel
theorem dX8_back_25 : decode cX8_back 25 = .ok (.aload_n 0, 1) := by decide +kernel
theorem dX8_back_26 : decode cX8_back 26 = .ok (.invokevirtual 229, 3) := by decide +kernel
theorem dX8_back_29 : decode cX8_back 29 = .ok (.iconst 1, 1) := by decide +kernel
theorem dX8_back_30 : decode cX8_back 30 = .ok (.ireturn, 1) := by decide +kernel
theorem dX8_beside_0 : decode cX8_beside 0 = .ok (.aload_n 0, 1) := by decide +kernel
theorem dX8_beside_1 : decode cX8_beside 1 = .ok (.iload_n 1, 1) := by decide +kernel
theorem dX8_beside_2 : decode cX8_beside 2 = .ok (.invokevirtual 226, 3) := by decide +kernel
theorem dX8_beside_5 : decode cX8_beside 5 = .ok (.istore_n 2, 1) := by decide +kernel
theorem dX8_beside_6 : decode cX8_beside 6 = .ok (.iload_n 2, 1) := by decide +kernel
theorem dX8_beside_7 : decode cX8_beside 7 = .ok (.ifCond .eq 5, 3) := by decide +kernel
theorem dX8_beside_10 : decode cX8_beside 10 = .ok (.iload_n 2, 1) := by decide +kernel
theorem dX8_beside_11 : decode cX8_beside 11 = .ok (.ireturn, 1) := by decide +kernel
theorem dX8_beside_12 : decode cX8_beside 12 = .ok (.aload_n 0, 1) := by decide +kernel
theorem dX8_beside_13 : decode cX8_beside 13 = .ok (.getfield 28, 3) := by decide +kernel
theorem dX8_beside_16 : decode cX8_beside 16 = .ok (.iload_n 1, 1) := by decide +kernel
theorem dX8_beside_17 : decode cX8_beside 17 = .ok (.aaload, 1) := by decide +kernel
theorem dX8_beside_18 : decode cX8_beside 18 = .ok (.astore_n 3, 1) := by decide +kernel
theorem dX8_beside_19 : decode cX8_beside 19 = .ok (.iconst 0, 1) := by decide +kernel
theorem dX8_beside_20 : decode cX8_beside 20 = .ok (.istore 4, 2) := by decide +kernel
theorem dX8_beside_22 : decode cX8_beside 22 = .ok (.iload 4, 2) := by decide +kernel
theorem dX8_beside_24 : decode cX8_beside 24 = .ok (.iconst 3, 1) := by decide +kernel
theorem dX8_beside_25 : decode cX8_beside 25 = .ok (.if_icmp .ge 35, 3) := by decide +kernel
theorem dX8_beside_28 : decode cX8_beside 28 = .ok (.aload_n 0, 1) := by decide +kernel
theorem dX8_beside_29 : decode cX8_beside 29 = .ok (.getfield 21, 3) := by decide +kernel
theorem dX8_beside_32 : decode cX8_beside 32 = .ok (.getfield 116, 3) := by decide +kernel
theorem dX8_beside_35 : decode cX8_beside 35 = .ok (.iload 4, 2) := by decide +kernel
theorem dX8_beside_37 : decode cX8_beside 37 = .ok (.iaload, 1) := by decide +kernel
theorem dX8_beside_38 : decode cX8_beside 38 = .ok (.aload_n 3, 1) := by decide +kernel
theorem dX8_beside_39 : decode cX8_beside 39 = .ok (.getfield 116, 3) := by decide +kernel
theorem dX8_beside_42 : decode cX8_beside 42 = .ok (.iload 4, 2) := by decide +kernel
theorem dX8_beside_44 : decode cX8_beside 44 = .ok (.iaload, 1) := by decide +kernel
theorem dX8_beside_45 : decode cX8_beside 45 = .ok (.iadd, 1) := by decide +kernel
theorem dX8_beside_46 : decode cX8_beside 46 = .ok (.bipush 9, 2) := by decide +kernel
theorem dX8_beside_48 : decode cX8_beside 48 = .ok (.if_icmp .le 6, 3) := by decide +kernel
theorem dX8_beside_51 : decode cX8_beside 51 = .ok (.bipush (-3), 2) := by decide +kernel
theorem dX8_beside_53 : decode cX8_beside 53 = .ok (.ireturn, 1) := by decide +kernel
theorem dX8_beside_54 : decode cX8_beside 54 = .ok (.iinc 4 1, 3) := by decide +kernel
theorem dX8_beside_57 : decode cX8_beside 57 = .ok (.goto (-35), 3) := by decide +kernel
theorem dX8_beside_60 : decode cX8_beside 60 = .ok (.aload_n 0, 1) := by decide +kernel
theorem dX8_beside_61 : decode cX8_beside 61 = .ok (.getfield 21, 3) := by decide +kernel
theorem dX8_beside_64 : decode cX8_beside 64 = .ok (.getfield 119, 3) := by decide +kernel
theorem dX8_beside_67 : decode cX8_beside 67 = .ok (.aload_n 3, 1) := by decide +kernel
theorem dX8_beside_68 : decode cX8_beside 68 = .ok (.getfield 119, 3) := by decide +kernel
theorem dX8_beside_71 : decode cX8_beside 71 = .ok (.iadd, 1) := by decide +kernel
theorem dX8_beside_72 : decode cX8_beside 72 = .ok (.bipush 40, 2) := by decide +kernel
theorem dX8_beside_74 : decode cX8_beside 74 = .ok (.if_icmp .le 6, 3) := by decide +kernel
theorem dX8_beside_77 : decode cX8_beside 77 = .ok (.bipush (-2), 2) := by decide +kernel
theorem dX8_beside_79 : decode cX8_beside 79 = .ok (.ireturn, 1) := by decide +kernel
theorem dX8_beside_80 : decode cX8_beside 80 = .ok (.aload_n 0, 1) := by decide +kernel
theorem dX8_beside_81 : decode cX8_beside 81 = .ok (.getfield 50, 3) := by decide +kernel
theorem dX8_beside_84 : decode cX8_beside 84 = .ok (.aload_n 0, 1) := by decide +kernel
theorem dX8_beside_85 : decode cX8_beside 85 = .ok (.getfield 21, 3) := by decide +kernel
theorem dX8_beside_88 : decode cX8_beside 88 = .ok (.aload_n 3, 1) := by decide +kernel
theorem dX8_beside_89 : decode cX8_beside 89 = .ok (.aload_n 0, 1) := by decide +kernel
theorem dX8_beside_90 : decode cX8_beside 90 = .ok (.getfield 25, 3) := by decide +kernel
theorem dX8_beside_93 : decode cX8_beside 93 = .ok (.invokevirtual 232, 3) := by decide +kernel
theorem dX8_beside_96 : decode cX8_beside 96 = .ok (.aload_n 0, 1) := by decide +kernel
theorem dX8_beside_97 : decode cX8_beside 97 = .ok (.invokevirtual 179, 3) := by decide +kernel
theorem dX8_beside_100 : decode cX8_beside 100 = .ok (.aload_n 0, 1) := by decide +kernel
theorem dX8_beside_101 : decode cX8_beside 101 = .ok (.getfield 21, 3) := by decide +kernel
theorem dX8_beside_104 : decode cX8_beside 104 = .ok (.getfield 119, 3) := by decide +kernel
theorem dX8_beside_107 : decode cX8_beside 107 = .ok (.ireturn, 1) := by decide +kernel
theorem dX8_within_0 : decode cX8_within 0 = .ok (.aload_n 0, 1) := by decide +kernel
theorem dX8_within_1 : decode cX8_within 1 = .ok (.iload_n 1, 1) := by decide +kernel
theorem dX8_within_2 : decode cX8_within 2 = .ok (.invokevirtual 226, 3) := by decide +kernel
theorem dX8_within_5 : decode cX8_within 5 = .ok (.istore_n 2, 1) := by decide +kernel
theorem dX8_within_6 : decode cX8_within 6 = .ok (.iload_n 2, 1) := by decide +kernel
theorem dX8_within_7 : decode cX8_within 7 = .ok (.ifCond .eq 5, 3) := by decide +kernel
theorem dX8_within_10 : decode cX8_within 10 = .ok (.iload_n 2, 1) := by decide +kernel
theorem dX8_within_11 : decode cX8_within 11 = .ok (.ireturn, 1) := by decide +kernel
theorem dX8_within_12 : decode cX8_within 12 = .ok (.aload_n 0, 1) := by decide +kernel
theorem dX8_within_13 : decode cX8_within 13 = .ok (.getfield 28, 3) := by decide +kernel
theorem dX8_within_16 : decode cX8_within 16 = .ok (.iload_n 1, 1) := by decide +kernel
theorem dX8_within_17 : decode cX8_within 17 = .ok (.aaload, 1) := by decide +kernel
theorem dX8_within_18 : decode cX8_within 18 = .ok (.astore_n 3, 1) := by decide +kernel
theorem dX8_within_19 : decode cX8_within 19 = .ok (.iconst 0, 1) := by decide +kernel
theorem dX8_within_20 : decode cX8_within 20 = .ok (.istore 4, 2) := by decide +kernel
theorem dX8_within_22 : decode cX8_within 22 = .ok (.iload 4, 2) := by decide +kernel
theorem dX8_within_24 : decode cX8_within 24 = .ok (.iconst 3, 1) := by decide +kernel
theorem dX8_within_25 : decode cX8_within 25 = .ok (.if_icmp .ge 35, 3) := by decide +kernel
theorem dX8_within_28 : decode cX8_within 28 = .ok (.aload_n 0, 1) := by decide +kernel
theorem dX8_within_29 : decode cX8_within 29 = .ok (.getfield 21, 3) := by decide +kernel
theorem dX8_within_32 : decode cX8_within 32 = .ok (.getfield 116, 3) := by decide +kernel
theorem dX8_within_35 : decode cX8_within 35 = .ok (.iload 4, 2) := by decide +kernel
theorem dX8_within_37 : decode cX8_within 37 = .ok (.iaload, 1) := by decide +kernel
theorem dX8_within_38 : decode cX8_within 38 = .ok (.aload_n 3, 1) := by decide +kernel
theorem dX8_within_39 : decode cX8_within 39 = .ok (.getfield 116, 3) := by decide +kernel
theorem dX8_within_42 : decode cX8_within 42 = .ok (.iload 4, 2) := by decide +kernel
theorem dX8_within_44 : decode cX8_within 44 = .ok (.iaload, 1) := by decide +kernel
theorem dX8_within_45 : decode cX8_within 45 = .ok (.imul, 1) := by decide +kernel
theorem dX8_within_46 : decode cX8_within 46 = .ok (.bipush 9, 2) := by decide +kernel
theorem dX8_within_48 : decode cX8_within 48 = .ok (.if_icmp .le 6, 3) := by decide +kernel
theorem dX8_within_51 : decode cX8_within 51 = .ok (.bipush (-3), 2) := by decide +kernel
theorem dX8_within_53 : decode cX8_within 53 = .ok (.ireturn, 1) := by decide +kernel
theorem dX8_within_54 : decode cX8_within 54 = .ok (.iinc 4 1, 3) := by decide +kernel
theorem dX8_within_57 : decode cX8_within 57 = .ok (.goto (-35), 3) := by decide +kernel
theorem dX8_within_60 : decode cX8_within 60 = .ok (.aload_n 0, 1) := by decide +kernel
theorem dX8_within_61 : decode cX8_within 61 = .ok (.getfield 21, 3) := by decide +kernel
theorem dX8_within_64 : decode cX8_within 64 = .ok (.getfield 119, 3) := by decide +kernel
theorem dX8_within_67 : decode cX8_within 67 = .ok (.aload_n 3, 1) := by decide +kernel
theorem dX8_within_68 : decode cX8_within 68 = .ok (.getfield 119, 3) := by decide +kernel
theorem dX8_within_71 : decode cX8_within 71 = .ok (.imul, 1) := by decide +kernel
theorem dX8_within_72 : decode cX8_within 72 = .ok (.bipush 40, 2) := by decide +kernel
theorem dX8_within_74 : decode cX8_within 74 = .ok (.if_icmp .le 6, 3) := by decide +kernel
theorem dX8_within_77 : decode cX8_within 77 = .ok (.bipush (-2), 2) := by decide +kernel
theorem dX8_within_79 : decode cX8_within 79 = .ok (.ireturn, 1) := by decide +kernel
theorem dX8_within_80 : decode cX8_within 80 = .ok (.aload_n 0, 1) := by decide +kernel
theorem dX8_within_81 : decode cX8_within 81 = .ok (.getfield 50, 3) := by decide +kernel
theorem dX8_within_84 : decode cX8_within 84 = .ok (.aload_n 0, 1) := by decide +kernel
theorem dX8_within_85 : decode cX8_within 85 = .ok (.getfield 21, 3) := by decide +kernel
theorem dX8_within_88 : decode cX8_within 88 = .ok (.aload_n 3, 1) := by decide +kernel
theorem dX8_within_89 : decode cX8_within 89 = .ok (.aload_n 0, 1) := by decide +kernel
theorem dX8_within_90 : decode cX8_within 90 = .ok (.getfield 25, 3) := by decide +kernel
theorem dX8_within_93 : decode cX8_within 93 = .ok (.invokevirtual 236, 3) := by decide +kernel
theorem dX8_within_96 : decode cX8_within 96 = .ok (.aload_n 0, 1) := by decide +kernel
theorem dX8_within_97 : decode cX8_within 97 = .ok (.invokevirtual 179, 3) := by decide +kernel
theorem dX8_within_100 : decode cX8_within 100 = .ok (.aload_n 0, 1) := by decide +kernel
theorem dX8_within_101 : decode cX8_within 101 = .ok (.getfield 21, 3) := by decide +kernel
theorem dX8_within_104 : decode cX8_within 104 = .ok (.getfield 119, 3) := by decide +kernel
theorem dX8_within_107 : decode cX8_within 107 = .ok (.ireturn, 1) := by decide +kernel
theorem dX8_isSize_0 : decode cX8_isSize 0 = .ok (.iload_n 0, 1) := by decide +kernel
theorem dX8_isSize_1 : decode cX8_isSize 1 = .ok (.iconst 1, 1) := by decide +kernel
theorem dX8_isSize_2 : decode cX8_isSize 2 = .ok (.if_icmp .lt 13, 3) := by decide +kernel
theorem dX8_isSize_5 : decode cX8_isSize 5 = .ok (.iload_n 0, 1) := by decide +kernel
theorem dX8_isSize_6 : decode cX8_isSize 6 = .ok (.bipush 9, 2) := by decide +kernel
theorem dX8_isSize_8 : decode cX8_isSize 8 = .ok (.if_icmp .gt 7, 3) := by decide +kernel
theorem dX8_isSize_11 : decode cX8_isSize 11 = .ok (.iconst 1, 1) := by decide +kernel
theorem dX8_isSize_12 : decode cX8_isSize 12 = .ok (.goto 4, 3) := by decide +kernel
theorem dX8_isSize_15 : decode cX8_isSize 15 = .ok (.iconst 0, 1) := by decide +kernel
theorem dX8_isSize_16 : decode cX8_isSize 16 = .ok (.ireturn, 1) := by decide +kernel
theorem dX8_isWay_0 : decode cX8_isWay 0 = .ok (.iload_n 0, 1) := by decide +kernel
theorem dX8_isWay_1 : decode cX8_isWay 1 = .ok (.ifCond .lt 12, 3) := by decide +kernel
theorem dX8_isWay_4 : decode cX8_isWay 4 = .ok (.iload_n 0, 1) := by decide +kernel
theorem dX8_isWay_5 : decode cX8_isWay 5 = .ok (.iconst 3, 1) := by decide +kernel
theorem dX8_isWay_6 : decode cX8_isWay 6 = .ok (.if_icmp .ge 7, 3) := by decide +kernel
theorem dX8_isWay_9 : decode cX8_isWay 9 = .ok (.iconst 1, 1) := by decide +kernel
theorem dX8_isWay_10 : decode cX8_isWay 10 = .ok (.goto 4, 3) := by decide +kernel
theorem dX8_isWay_13 : decode cX8_isWay 13 = .ok (.iconst 0, 1) := by decide +kernel
theorem dX8_isWay_14 : decode cX8_isWay 14 = .ok (.ireturn, 1) := by decide +kernel
theorem dX8_isPlace_0 : decode cX8_isPlace 0 = .ok (.iload_n 0, 1) := by decide +kernel
theorem dX8_isPlace_1 : decode cX8_isPlace 1 = .ok (.ifCond .lt 12, 3) := by decide +kernel
theorem dX8_isPlace_4 : decode cX8_isPlace 4 = .ok (.iload_n 0, 1) := by decide +kernel
theorem dX8_isPlace_5 : decode cX8_isPlace 5 = .ok (.iconst 4, 1) := by decide +kernel
theorem dX8_isPlace_6 : decode cX8_isPlace 6 = .ok (.if_icmp .ge 7, 3) := by decide +kernel
theorem dX8_isPlace_9 : decode cX8_isPlace 9 = .ok (.iconst 1, 1) := by decide +kernel
theorem dX8_isPlace_10 : decode cX8_isPlace 10 = .ok (.goto 4, 3) := by decide +kernel
theorem dX8_isPlace_13 : decode cX8_isPlace 13 = .ok (.iconst 0, 1) := by decide +kernel
theorem dX8_isPlace_14 : decode cX8_isPlace 14 = .ok (.ireturn, 1) := by decide +kernel
theorem dX8_faultOfPlace_0 : decode cX8_faultOfPlace 0 = .ok (.iload_n 1, 1) := by decide +kernel
theorem dX8_faultOfPlace_1 : decode cX8_faultOfPlace 1 = .ok (.invokestatic 219, 3) := by decide +kernel
theorem dX8_faultOfPlace_4 : decode cX8_faultOfPlace 4 = .ok (.ifCond .ne 5, 3) := by decide +kernel
theorem dX8_faultOfPlace_7 : decode cX8_faultOfPlace 7 = .ok (.iconst (-1), 1) := by decide +kernel
theorem dX8_faultOfPlace_8 : decode cX8_faultOfPlace 8 = .ok (.ireturn, 1) := by decide +kernel
theorem dX8_faultOfPlace_9 : decode cX8_faultOfPlace 9 = .ok (.aload_n 0, 1) := by decide +kernel
theorem dX8_faultOfPlace_10 : decode cX8_faultOfPlace 10 = .ok (.getfield 32, 3) := by decide +kernel
theorem dX8_faultOfPlace_13 : decode cX8_faultOfPlace 13 = .ok (.iload_n 1, 1) := by decide +kernel
theorem dX8_faultOfPlace_14 : decode cX8_faultOfPlace 14 = .ok (.baload, 1) := by decide +kernel
theorem dX8_faultOfPlace_15 : decode cX8_faultOfPlace 15 = .ok (.ifCond .eq 7, 3) := by decide +kernel
theorem dX8_faultOfPlace_18 : decode cX8_faultOfPlace 18 = .ok (.iconst 0, 1) := by decide +kernel
theorem dX8_faultOfPlace_19 : decode cX8_faultOfPlace 19 = .ok (.goto 5, 3) := by decide +kernel
theorem dX8_faultOfPlace_22 : decode cX8_faultOfPlace 22 = .ok (.bipush (-4), 2) := by decide +kernel
theorem dX8_faultOfPlace_24 : decode cX8_faultOfPlace 24 = .ok (.ireturn, 1) := by decide +kernel
theorem dX8_startBox_0 : decode cX8_startBox 0 = .ok (.aload_n 0, 1) := by decide +kernel
theorem dX8_startBox_1 : decode cX8_startBox 1 = .ok (.getfield 21, 3) := by decide +kernel
theorem dX8_startBox_4 : decode cX8_startBox 4 = .ok (.iload_n 1, 1) := by decide +kernel
theorem dX8_startBox_5 : decode cX8_startBox 5 = .ok (.iload_n 2, 1) := by decide +kernel
theorem dX8_startBox_6 : decode cX8_startBox 6 = .ok (.iload_n 3, 1) := by decide +kernel
theorem dX8_startBox_7 : decode cX8_startBox 7 = .ok (.invokevirtual 239, 3) := by decide +kernel
theorem dX8_startBox_10 : decode cX8_startBox 10 = .ok (.aload_n 0, 1) := by decide +kernel
theorem dX8_startBox_11 : decode cX8_startBox 11 = .ok (.invokevirtual 229, 3) := by decide +kernel
theorem dX8_startBox_14 : decode cX8_startBox 14 = .ok (.return_, 1) := by decide +kernel
theorem dX8_emptyHands_0 : decode cX8_emptyHands 0 = .ok (.aload_n 0, 1) := by decide +kernel
theorem dX8_emptyHands_1 : decode cX8_emptyHands 1 = .ok (.getfield 36, 3) := by decide +kernel
theorem dX8_emptyHands_4 : decode cX8_emptyHands 4 = .ok (.iconst 0, 1) := by decide +kernel
theorem dX8_emptyHands_5 : decode cX8_emptyHands 5 = .ok (.iconst 0, 1) := by decide +kernel
theorem dX8_emptyHands_6 : decode cX8_emptyHands 6 = .ok (.iastore, 1) := by decide +kernel
theorem dX8_emptyHands_7 : decode cX8_emptyHands 7 = .ok (.aload_n 0, 1) := by decide +kernel
theorem dX8_emptyHands_8 : decode cX8_emptyHands 8 = .ok (.getfield 36, 3) := by decide +kernel
theorem dX8_emptyHands_11 : decode cX8_emptyHands 11 = .ok (.iconst 1, 1) := by decide +kernel
theorem dX8_emptyHands_12 : decode cX8_emptyHands 12 = .ok (.iconst 0, 1) := by decide +kernel
theorem dX8_emptyHands_13 : decode cX8_emptyHands 13 = .ok (.iastore, 1) := by decide +kernel
theorem dX8_emptyHands_14 : decode cX8_emptyHands 14 = .ok (.return_, 1) := by decide +kernel
theorem dX8_takeSpare_0 : decode cX8_takeSpare 0 = .ok (.aload_n 0, 1) := by decide +kernel
theorem dX8_takeSpare_1 : decode cX8_takeSpare 1 = .ok (.getfield 21, 3) := by decide +kernel
theorem dX8_takeSpare_4 : decode cX8_takeSpare 4 = .ok (.astore_n 1, 1) := by decide +kernel
theorem dX8_takeSpare_5 : decode cX8_takeSpare 5 = .ok (.aload_n 0, 1) := by decide +kernel
theorem dX8_takeSpare_6 : decode cX8_takeSpare 6 = .ok (.aload_n 0, 1) := by decide +kernel
theorem dX8_takeSpare_7 : decode cX8_takeSpare 7 = .ok (.getfield 25, 3) := by decide +kernel
theorem dX8_takeSpare_10 : decode cX8_takeSpare 10 = .ok (.putfield 21, 3) := by decide +kernel
theorem dX8_takeSpare_13 : decode cX8_takeSpare 13 = .ok (.aload_n 0, 1) := by decide +kernel
theorem dX8_takeSpare_14 : decode cX8_takeSpare 14 = .ok (.aload_n 1, 1) := by decide +kernel
theorem dX8_takeSpare_15 : decode cX8_takeSpare 15 = .ok (.putfield 25, 3) := by decide +kernel
theorem dX8_takeSpare_18 : decode cX8_takeSpare 18 = .ok (.aload_n 0, 1) := by decide +kernel
theorem dX8_takeSpare_19 : decode cX8_takeSpare 19 = .ok (.invokevirtual 229, 3) := by decide +kernel
theorem dX8_takeSpare_22 : decode cX8_takeSpare 22 = .ok (.return_, 1) := by decide +kernel
theorem dX8_rankBy_0 : decode cX8_rankBy 0 = .ok (.iload_n 1, 1) := by decide +kernel
theorem dX8_rankBy_1 : decode cX8_rankBy 1 = .ok (.ifCond .ne 7, 3) := by decide +kernel
theorem dX8_rankBy_4 : decode cX8_rankBy 4 = .ok (.iconst 1, 1) := by decide +kernel
theorem dX8_rankBy_5 : decode cX8_rankBy 5 = .ok (.goto 4, 3) := by decide +kernel
theorem dX8_rankBy_8 : decode cX8_rankBy 8 = .ok (.iconst 0, 1) := by decide +kernel
theorem dX8_rankBy_9 : decode cX8_rankBy 9 = .ok (.istore_n 2, 1) := by decide +kernel
theorem dX8_rankBy_10 : decode cX8_rankBy 10 = .ok (.iload_n 1, 1) := by decide +kernel
theorem dX8_rankBy_11 : decode cX8_rankBy 11 = .ok (.iconst 2, 1) := by decide +kernel
theorem dX8_rankBy_12 : decode cX8_rankBy 12 = .ok (.if_icmp .ne 7, 3) := by decide +kernel
theorem dX8_rankBy_15 : decode cX8_rankBy 15 = .ok (.iconst 1, 1) := by decide +kernel
theorem dX8_rankBy_16 : decode cX8_rankBy 16 = .ok (.goto 4, 3) := by decide +kernel
theorem dX8_rankBy_19 : decode cX8_rankBy 19 = .ok (.iconst 2, 1) := by decide +kernel
theorem dX8_rankBy_20 : decode cX8_rankBy 20 = .ok (.istore_n 3, 1) := by decide +kernel
theorem dX8_rankBy_21 : decode cX8_rankBy 21 = .ok (.aload_n 0, 1) := by decide +kernel
theorem dX8_rankBy_22 : decode cX8_rankBy 22 = .ok (.getfield 64, 3) := by decide +kernel
theorem dX8_rankBy_25 : decode cX8_rankBy 25 = .ok (.invokevirtual 242, 3) := by decide +kernel
theorem dX8_rankBy_28 : decode cX8_rankBy 28 = .ok (.iconst 0, 1) := by decide +kernel
theorem dX8_rankBy_29 : decode cX8_rankBy 29 = .ok (.istore 4, 2) := by decide +kernel
theorem dX8_rankBy_31 : decode cX8_rankBy 31 = .ok (.iload 4, 2) := by decide +kernel
theorem dX8_rankBy_33 : decode cX8_rankBy 33 = .ok (.aload_n 0, 1) := by decide +kernel
theorem dX8_rankBy_34 : decode cX8_rankBy 34 = .ok (.getfield 21, 3) := by decide +kernel
theorem dX8_rankBy_37 : decode cX8_rankBy 37 = .ok (.getfield 116, 3) := by decide +kernel
theorem dX8_rankBy_40 : decode cX8_rankBy 40 = .ok (.iload_n 2, 1) := by decide +kernel
theorem dX8_rankBy_41 : decode cX8_rankBy 41 = .ok (.iaload, 1) := by decide +kernel
theorem dX8_rankBy_42 : decode cX8_rankBy 42 = .ok (.if_icmp .ge 52, 3) := by decide +kernel
theorem dX8_rankBy_45 : decode cX8_rankBy 45 = .ok (.iconst 0, 1) := by decide +kernel
theorem dX8_rankBy_46 : decode cX8_rankBy 46 = .ok (.istore 5, 2) := by decide +kernel
theorem dX8_rankBy_48 : decode cX8_rankBy 48 = .ok (.iload 5, 2) := by decide +kernel
theorem dX8_rankBy_50 : decode cX8_rankBy 50 = .ok (.aload_n 0, 1) := by decide +kernel
theorem dX8_rankBy_51 : decode cX8_rankBy 51 = .ok (.getfield 21, 3) := by decide +kernel
theorem dX8_rankBy_54 : decode cX8_rankBy 54 = .ok (.getfield 116, 3) := by decide +kernel
theorem dX8_rankBy_57 : decode cX8_rankBy 57 = .ok (.iload_n 3, 1) := by decide +kernel
theorem dX8_rankBy_58 : decode cX8_rankBy 58 = .ok (.iaload, 1) := by decide +kernel
theorem dX8_rankBy_59 : decode cX8_rankBy 59 = .ok (.if_icmp .ge 29, 3) := by decide +kernel
theorem dX8_rankBy_62 : decode cX8_rankBy 62 = .ok (.aload_n 0, 1) := by decide +kernel
theorem dX8_rankBy_63 : decode cX8_rankBy 63 = .ok (.getfield 64, 3) := by decide +kernel
theorem dX8_rankBy_66 : decode cX8_rankBy 66 = .ok (.aload_n 0, 1) := by decide +kernel
theorem dX8_rankBy_67 : decode cX8_rankBy 67 = .ok (.getfield 21, 3) := by decide +kernel
theorem dX8_rankBy_70 : decode cX8_rankBy 70 = .ok (.iload_n 1, 1) := by decide +kernel
theorem dX8_rankBy_71 : decode cX8_rankBy 71 = .ok (.iload 4, 2) := by decide +kernel
theorem dX8_rankBy_73 : decode cX8_rankBy 73 = .ok (.iload 5, 2) := by decide +kernel
theorem dX8_rankBy_75 : decode cX8_rankBy 75 = .ok (.invokevirtual 245, 3) := by decide +kernel
theorem dX8_rankBy_78 : decode cX8_rankBy 78 = .ok (.invokevirtual 248, 3) := by decide +kernel
theorem dX8_rankBy_81 : decode cX8_rankBy 81 = .ok (.pop, 1) := by decide +kernel
theorem dX8_rankBy_82 : decode cX8_rankBy 82 = .ok (.iinc 5 1, 3) := by decide +kernel
theorem dX8_rankBy_85 : decode cX8_rankBy 85 = .ok (.goto (-37), 3) := by decide +kernel
theorem dX8_rankBy_88 : decode cX8_rankBy 88 = .ok (.iinc 4 1, 3) := by decide +kernel
theorem dX8_rankBy_91 : decode cX8_rankBy 91 = .ok (.goto (-60), 3) := by decide +kernel
theorem dX8_rankBy_94 : decode cX8_rankBy 94 = .ok (.aload_n 0, 1) := by decide +kernel
theorem dX8_rankBy_95 : decode cX8_rankBy 95 = .ok (.getfield 64, 3) := by decide +kernel
theorem dX8_rankBy_98 : decode cX8_rankBy 98 = .ok (.getfield 251, 3) := by decide +kernel
theorem dX8_rankBy_101 : decode cX8_rankBy 101 = .ok (.ireturn, 1) := by decide +kernel
end
section
theorem dX9_init_0 : decode cX9_init 0 = .ok (.aload_n 0, 1) := by decide +kernel
theorem dX9_init_1 : decode cX9_init 1 = .ok (.invokespecial 1, 3) := by decide +kernel
theorem dX9_init_4 : decode cX9_init 4 = .ok (.aload_n 0, 1) := by decide +kernel
theorem dX9_init_5 : decode cX9_init 5 = .ok (.iconst 2, 1) := by decide +kernel
theorem dX9_init_6 : decode cX9_init 6 = .ok (.putfield 7, 3) := by decide +kernel
theorem dX9_init_9 : decode cX9_init 9 = .ok (.aload_n 0, 1) := by decide +kernel
theorem dX9_init_10 : decode cX9_init 10 = .ok (.iconst 3, 1) := by decide +kernel
theorem dX9_init_11 : decode cX9_init 11 = .ok (.newarray .int, 2) := by decide +kernel
theorem dX9_init_13 : decode cX9_init 13 = .ok (.putfield 13, 3) := by decide +kernel
theorem dX9_init_16 : decode cX9_init 16 = .ok (.aload_n 0, 1) := by decide +kernel
theorem dX9_init_17 : decode cX9_init 17 = .ok (.sipush 729, 3) := by decide +kernel
theorem dX9_init_20 : decode cX9_init 20 = .ok (.newarray .int, 2) := by decide +kernel
theorem dX9_init_22 : decode cX9_init 22 = .ok (.putfield 17, 3) := by decide +kernel
theorem dX9_init_25 : decode cX9_init 25 = .ok (.aload_n 0, 1) := by decide +kernel
theorem dX9_init_26 : decode cX9_init 26 = .ok (.sipush 1080, 3) := by decide +kernel
theorem dX9_init_29 : decode cX9_init 29 = .ok (.newarray .int, 2) := by decide +kernel
theorem dX9_init_31 : decode cX9_init 31 = .ok (.putfield 20, 3) := by decide +kernel
theorem dX9_init_34 : decode cX9_init 34 = .ok (.aload_n 0, 1) := by decide +kernel
theorem dX9_init_35 : decode cX9_init 35 = .ok (.bipush 18, 2) := by decide +kernel
theorem dX9_init_37 : decode cX9_init 37 = .ok (.newarray .int, 2) := by decide +kernel
theorem dX9_init_39 : decode cX9_init 39 = .ok (.putfield 23, 3) := by decide +kernel
theorem dX9_init_42 : decode cX9_init 42 = .ok (.aload_n 0, 1) := by decide +kernel
theorem dX9_init_43 : decode cX9_init 43 = .ok (.iconst 4, 1) := by decide +kernel
theorem dX9_init_44 : decode cX9_init 44 = .ok (.newarray .boolean, 2) := by decide +kernel
theorem dX9_init_46 : decode cX9_init 46 = .ok (.putfield 26, 3) := by decide +kernel
theorem dX9_init_49 : decode cX9_init 49 = .ok (.aload_n 0, 1) := by decide +kernel
theorem dX9_init_50 : decode cX9_init 50 = .ok (.bipush 12, 2) := by decide +kernel
theorem dX9_init_52 : decode cX9_init 52 = .ok (.newarray .int, 2) := by decide +kernel
theorem dX9_init_54 : decode cX9_init 54 = .ok (.putfield 30, 3) := by decide +kernel
theorem dX9_init_57 : decode cX9_init 57 = .ok (.aload_n 0, 1) := by decide +kernel
theorem dX9_init_58 : decode cX9_init 58 = .ok (.sipush 2916, 3) := by decide +kernel
theorem dX9_init_61 : decode cX9_init 61 = .ok (.newarray .int, 2) := by decide +kernel
theorem dX9_init_63 : decode cX9_init 63 = .ok (.putfield 33, 3) := by decide +kernel
theorem dX9_init_66 : decode cX9_init 66 = .ok (.aload_n 0, 1) := by decide +kernel
theorem dX9_init_67 : decode cX9_init 67 = .ok (.sipush 4320, 3) := by decide +kernel
theorem dX9_init_70 : decode cX9_init 70 = .ok (.newarray .int, 2) := by decide +kernel
theorem dX9_init_72 : decode cX9_init 72 = .ok (.putfield 36, 3) := by decide +kernel
theorem dX9_init_75 : decode cX9_init 75 = .ok (.aload_n 0, 1) := by decide +kernel
theorem dX9_init_76 : decode cX9_init 76 = .ok (.iconst 4, 1) := by decide +kernel
theorem dX9_init_77 : decode cX9_init 77 = .ok (.newarray .int, 2) := by decide +kernel
theorem dX9_init_79 : decode cX9_init 79 = .ok (.putfield 39, 3) := by decide +kernel
theorem dX9_init_82 : decode cX9_init 82 = .ok (.aload_n 0, 1) := by decide +kernel
theorem dX9_init_83 : decode cX9_init 83 = .ok (.iconst 3, 1) := by decide +kernel
theorem dX9_init_84 : decode cX9_init 84 = .ok (.newarray .int, 2) := by decide +kernel
theorem dX9_init_86 : decode cX9_init 86 = .ok (.putfield 42, 3) := by decide +kernel
theorem dX9_init_89 : decode cX9_init 89 = .ok (.aload_n 0, 1) := by decide +kernel
theorem dX9_init_90 : decode cX9_init 90 = .ok (.sipush 729, 3) := by decide +kernel
theorem dX9_init_93 : decode cX9_init 93 = .ok (.newarray .int, 2) := by decide +kernel
theorem dX9_init_95 : decode cX9_init 95 = .ok (.putfield 45, 3) := by decide +kernel
theorem dX9_init_98 : decode cX9_init 98 = .ok (.aload_n 0, 1) := by decide +kernel
theorem dX9_init_99 : decode cX9_init 99 = .ok (.sipush 1080, 3) := by decide +kernel
theorem dX9_init_102 : decode cX9_init 102 = .ok (.newarray .int, 2) := by decide +kernel
theorem dX9_init_104 : decode cX9_init 104 = .ok (.putfield 48, 3) := by decide +kernel
theorem dX9_init_107 : decode cX9_init 107 = .ok (.aload_n 0, 1) := by decide +kernel
theorem dX9_init_108 : decode cX9_init 108 = .ok (.sipush 729, 3) := by decide +kernel
theorem dX9_init_111 : decode cX9_init 111 = .ok (.newarray .int, 2) := by decide +kernel
theorem dX9_init_113 : decode cX9_init 113 = .ok (.putfield 51, 3) := by decide +kernel
theorem dX9_init_116 : decode cX9_init 116 = .ok (.aload_n 0, 1) := by decide +kernel
theorem dX9_init_117 : decode cX9_init 117 = .ok (.bipush 60, 2) := by decide +kernel
theorem dX9_init_119 : decode cX9_init 119 = .ok (.newarray .int, 2) := by decide +kernel
theorem dX9_init_121 : decode cX9_init 121 = .ok (.putfield 54, 3) := by decide +kernel
theorem dX9_init_124 : decode cX9_init 124 = .ok (.aload_n 0, 1) := by decide +kernel
theorem dX9_init_125 : decode cX9_init 125 = .ok (.bipush 60, 2) := by decide +kernel
theorem dX9_init_127 : decode cX9_init 127 = .ok (.newarray .int, 2) := by decide +kernel
theorem dX9_init_129 : decode cX9_init 129 = .ok (.putfield 57, 3) := by decide +kernel
theorem dX9_init_132 : decode cX9_init 132 = .ok (.aload_n 0, 1) := by decide +kernel
theorem dX9_init_133 : decode cX9_init 133 = .ok (.iconst 4, 1) := by decide +kernel
theorem dX9_init_134 : decode cX9_init 134 = .ok (.newarray .int, 2) := by decide +kernel
theorem dX9_init_136 : decode cX9_init 136 = .ok (.putfield 60, 3) := by decide +kernel
theorem dX9_init_139 : decode cX9_init 139 = .ok (.aload_n 0, 1) := by decide +kernel
theorem dX9_init_140 : decode cX9_init 140 = .ok (.sipush 3645, 3) := by decide +kernel
theorem dX9_init_143 : decode cX9_init 143 = .ok (.newarray .int, 2) := by decide +kernel
theorem dX9_init_145 : decode cX9_init 145 = .ok (.putfield 63, 3) := by decide +kernel
theorem dX9_init_148 : decode cX9_init 148 = .ok (.aload_n 0, 1) := by decide +kernel
theorem dX9_init_149 : decode cX9_init 149 = .ok (.sipush 324, 3) := by decide +kernel
theorem dX9_init_152 : decode cX9_init 152 = .ok (.newarray .int, 2) := by decide +kernel
theorem dX9_init_154 : decode cX9_init 154 = .ok (.putfield 66, 3) := by decide +kernel
theorem dX9_init_157 : decode cX9_init 157 = .ok (.aload_n 0, 1) := by decide +kernel
theorem dX9_init_158 : decode cX9_init 158 = .ok (.iconst 4, 1) := by decide +kernel
theorem dX9_init_159 : decode cX9_init 159 = .ok (.newarray .int, 2) := by decide +kernel
theorem dX9_init_161 : decode cX9_init 161 = .ok (.putfield 69, 3) := by decide +kernel
theorem dX9_init_164 : decode cX9_init 164 = .ok (.aload_n 0, 1) := by decide +kernel
theorem dX9_init_165 : decode cX9_init 165 = .ok (.sipush 405, 3) := by decide +kernel
theorem dX9_init_168 : decode cX9_init 168 = .ok (.newarray .int, 2) := by decide +kernel
theorem dX9_init_170 : decode cX9_init 170 = .ok (.putfield 72, 3) := by decide +kernel
theorem dX9_init_173 : decode cX9_init 173 = .ok (.aload_n 0, 1) := by decide +kernel
theorem dX9_init_174 : decode cX9_init 174 = .ok (.iconst 4, 1) := by decide +kernel
theorem dX9_init_175 : decode cX9_init 175 = .ok (.newarray .int, 2) := by decide +kernel
theorem dX9_init_177 : decode cX9_init 177 = .ok (.putfield 75, 3) := by decide +kernel
theorem dX9_init_180 : decode cX9_init 180 = .ok (.aload_n 0, 1) := by decide +kernel
theorem dX9_init_181 : decode cX9_init 181 = .ok (.sipush 1960, 3) := by decide +kernel
theorem dX9_init_184 : decode cX9_init 184 = .ok (.newarray .int, 2) := by decide +kernel
theorem dX9_init_186 : decode cX9_init 186 = .ok (.putfield 78, 3) := by decide +kernel
theorem dX9_init_189 : decode cX9_init 189 = .ok (.aload_n 0, 1) := by decide +kernel
theorem dX9_init_190 : decode cX9_init 190 = .ok (.iconst 1, 1) := by decide +kernel
theorem dX9_init_191 : decode cX9_init 191 = .ok (.iconst 1, 1) := by decide +kernel
theorem dX9_init_192 : decode cX9_init 192 = .ok (.iconst 1, 1) := by decide +kernel
theorem dX9_init_193 : decode cX9_init 193 = .ok (.invokevirtual 81, 3) := by decide +kernel
theorem dX9_init_196 : decode cX9_init 196 = .ok (.return_, 1) := by decide +kernel
theorem dX9_in_0 : decode cX9_in 0 = .ok (.lload_n 0, 1) := by decide +kernel
theorem dX9_in_1 : decode cX9_in 1 = .ok (.lload_n 2, 1) := by decide +kernel
theorem dX9_in_2 : decode cX9_in 2 = .ok (.lcmp, 1) := by decide +kernel
theorem dX9_in_3 : decode cX9_in 3 = .ok (.ifCond .lt 14, 3) := by decide +kernel
theorem dX9_in_6 : decode cX9_in 6 = .ok (.lload_n 0, 1) := by decide +kernel
theorem dX9_in_7 : decode cX9_in 7 = .ok (.lload 4, 2) := by decide +kernel
theorem dX9_in_9 : decode cX9_in 9 = .ok (.lcmp, 1) := by decide +kernel
theorem dX9_in_10 : decode cX9_in 10 = .ok (.ifCond .gt 7, 3) := by decide +kernel
theorem dX9_in_13 : decode cX9_in 13 = .ok (.iconst 1, 1) := by decide +kernel
theorem dX9_in_14 : decode cX9_in 14 = .ok (.goto 4, 3) := by decide +kernel
theorem dX9_in_17 : decode cX9_in 17 = .ok (.iconst 0, 1) := by decide +kernel
theorem dX9_in_18 : decode cX9_in 18 = .ok (.ireturn, 1) := by decide +kernel
theorem dX9_fresh_0 : decode cX9_fresh 0 = .ok (.aload_n 0, 1) := by decide +kernel
theorem dX9_fresh_1 : decode cX9_fresh 1 = .ok (.getfield 13, 3) := by decide +kernel
theorem dX9_fresh_4 : decode cX9_fresh 4 = .ok (.iconst 0, 1) := by decide +kernel
theorem dX9_fresh_5 : decode cX9_fresh 5 = .ok (.iload_n 1, 1) := by decide +kernel
theorem dX9_fresh_6 : decode cX9_fresh 6 = .ok (.iastore, 1) := by decide +kernel
theorem dX9_fresh_7 : decode cX9_fresh 7 = .ok (.aload_n 0, 1) := by decide +kernel
theorem dX9_fresh_8 : decode cX9_fresh 8 = .ok (.getfield 13, 3) := by decide +kernel
theorem dX9_fresh_11 : decode cX9_fresh 11 = .ok (.iconst 1, 1) := by decide +kernel
theorem dX9_fresh_12 : decode cX9_fresh 12 = .ok (.iload_n 2, 1) := by decide +kernel
theorem dX9_fresh_13 : decode cX9_fresh 13 = .ok (.iastore, 1) := by decide +kernel
theorem dX9_fresh_14 : decode cX9_fresh 14 = .ok (.aload_n 0, 1) := by decide +kernel
theorem dX9_fresh_15 : decode cX9_fresh 15 = .ok (.getfield 13, 3) := by decide +kernel
theorem dX9_fresh_18 : decode cX9_fresh 18 = .ok (.iconst 2, 1) := by decide +kernel
theorem dX9_fresh_19 : decode cX9_fresh 19 = .ok (.iload_n 3, 1) := by decide +kernel
theorem dX9_fresh_20 : decode cX9_fresh 20 = .ok (.iastore, 1) := by decide +kernel
theorem dX9_fresh_21 : decode cX9_fresh 21 = .ok (.iconst 0, 1) := by decide +kernel
theorem dX9_fresh_22 : decode cX9_fresh 22 = .ok (.istore 4, 2) := by decide +kernel
theorem dX9_fresh_24 : decode cX9_fresh 24 = .ok (.iload 4, 2) := by decide +kernel
theorem dX9_fresh_26 : decode cX9_fresh 26 = .ok (.sipush 729, 3) := by decide +kernel
theorem dX9_fresh_29 : decode cX9_fresh 29 = .ok (.if_icmp .ge 17, 3) := by decide +kernel
theorem dX9_fresh_32 : decode cX9_fresh 32 = .ok (.aload_n 0, 1) := by decide +kernel
theorem dX9_fresh_33 : decode cX9_fresh 33 = .ok (.getfield 17, 3) := by decide +kernel
theorem dX9_fresh_36 : decode cX9_fresh 36 = .ok (.iload 4, 2) := by decide +kernel
theorem dX9_fresh_38 : decode cX9_fresh 38 = .ok (.iconst 0, 1) := by decide +kernel
theorem dX9_fresh_39 : decode cX9_fresh 39 = .ok (.iastore, 1) := by decide +kernel
theorem dX9_fresh_40 : decode cX9_fresh 40 = .ok (.iinc 4 1, 3) := by decide +kernel
theorem dX9_fresh_43 : decode cX9_fresh 43 = .ok (.goto (-19), 3) := by decide +kernel
theorem dX9_fresh_46 : decode cX9_fresh 46 = .ok (.aload_n 0, 1) := by decide +kernel
theorem dX9_fresh_47 : decode cX9_fresh 47 = .ok (.iconst 0, 1) := by decide +kernel
theorem dX9_fresh_48 : decode cX9_fresh 48 = .ok (.putfield 85, 3) := by decide +kernel
theorem dX9_fresh_51 : decode cX9_fresh 51 = .ok (.aload_n 0, 1) := by decide +kernel
theorem dX9_fresh_52 : decode cX9_fresh 52 = .ok (.invokevirtual 88, 3) := by decide +kernel
theorem dX9_fresh_55 : decode cX9_fresh 55 = .ok (.aload_n 0, 1) := by decide +kernel
theorem dX9_fresh_56 : decode cX9_fresh 56 = .ok (.iconst 0, 1) := by decide +kernel
theorem dX9_fresh_57 : decode cX9_fresh 57 = .ok (.putfield 91, 3) := by decide +kernel
theorem dX9_fresh_60 : decode cX9_fresh 60 = .ok (.return_, 1) := by decide +kernel
theorem dX9_emptyHand_0 : decode cX9_emptyHand 0 = .ok (.iconst 0, 1) := by decide +kernel
theorem dX9_emptyHand_1 : decode cX9_emptyHand 1 = .ok (.istore_n 1, 1) := by decide +kernel
theorem dX9_emptyHand_2 : decode cX9_emptyHand 2 = .ok (.iload_n 1, 1) := by decide +kernel
theorem dX9_emptyHand_3 : decode cX9_emptyHand 3 = .ok (.bipush 18, 2) := by decide +kernel
theorem dX9_emptyHand_5 : decode cX9_emptyHand 5 = .ok (.if_icmp .ge 16, 3) := by decide +kernel
theorem dX9_emptyHand_8 : decode cX9_emptyHand 8 = .ok (.aload_n 0, 1) := by decide +kernel
theorem dX9_emptyHand_9 : decode cX9_emptyHand 9 = .ok (.getfield 23, 3) := by decide +kernel
theorem dX9_emptyHand_12 : decode cX9_emptyHand 12 = .ok (.iload_n 1, 1) := by decide +kernel
theorem dX9_emptyHand_13 : decode cX9_emptyHand 13 = .ok (.iconst 0, 1) := by decide +kernel
theorem dX9_emptyHand_14 : decode cX9_emptyHand 14 = .ok (.iastore, 1) := by decide +kernel
theorem dX9_emptyHand_15 : decode cX9_emptyHand 15 = .ok (.iinc 1 1, 3) := by decide +kernel
theorem dX9_emptyHand_18 : decode cX9_emptyHand 18 = .ok (.goto (-16), 3) := by decide +kernel
theorem dX9_emptyHand_21 : decode cX9_emptyHand 21 = .ok (.return_, 1) := by decide +kernel
theorem dX9_inverse_0 : decode cX9_inverse 0 = .ok (.iconst 1, 1) := by decide +kernel
theorem dX9_inverse_1 : decode cX9_inverse 1 = .ok (.istore_n 2, 1) := by decide +kernel
theorem dX9_inverse_2 : decode cX9_inverse 2 = .ok (.iload_n 1, 1) := by decide +kernel
theorem dX9_inverse_3 : decode cX9_inverse 3 = .ok (.iload_n 2, 1) := by decide +kernel
theorem dX9_inverse_4 : decode cX9_inverse 4 = .ok (.imul, 1) := by decide +kernel
theorem dX9_inverse_5 : decode cX9_inverse 5 = .ok (.aload_n 0, 1) := by decide +kernel
theorem dX9_inverse_6 : decode cX9_inverse 6 = .ok (.getfield 7, 3) := by decide +kernel
theorem dX9_inverse_9 : decode cX9_inverse 9 = .ok (.irem, 1) := by decide +kernel
theorem dX9_inverse_10 : decode cX9_inverse 10 = .ok (.iconst 1, 1) := by decide +kernel
theorem dX9_inverse_11 : decode cX9_inverse 11 = .ok (.if_icmp .eq 9, 3) := by decide +kernel
theorem dX9_inverse_14 : decode cX9_inverse 14 = .ok (.iinc 2 1, 3) := by decide +kernel
theorem dX9_inverse_17 : decode cX9_inverse 17 = .ok (.goto (-15), 3) := by decide +kernel
theorem dX9_inverse_20 : decode cX9_inverse 20 = .ok (.iload_n 2, 1) := by decide +kernel
theorem dX9_inverse_21 : decode cX9_inverse 21 = .ok (.ireturn, 1) := by decide +kernel
theorem dX9_ground_0 : decode cX9_ground 0 = .ok (.iload_n 1, 1) := by decide +kernel
theorem dX9_ground_1 : decode cX9_ground 1 = .ok (.iconst 2, 1) := by decide +kernel
theorem dX9_ground_2 : decode cX9_ground 2 = .ok (.if_icmp .eq 21, 3) := by decide +kernel
theorem dX9_ground_5 : decode cX9_ground 5 = .ok (.iload_n 1, 1) := by decide +kernel
theorem dX9_ground_6 : decode cX9_ground 6 = .ok (.iconst 3, 1) := by decide +kernel
theorem dX9_ground_7 : decode cX9_ground 7 = .ok (.if_icmp .eq 16, 3) := by decide +kernel
theorem dX9_ground_10 : decode cX9_ground 10 = .ok (.iload_n 1, 1) := by decide +kernel
theorem dX9_ground_11 : decode cX9_ground 11 = .ok (.iconst 5, 1) := by decide +kernel
theorem dX9_ground_12 : decode cX9_ground 12 = .ok (.if_icmp .eq 11, 3) := by decide +kernel
theorem dX9_ground_15 : decode cX9_ground 15 = .ok (.iload_n 1, 1) := by decide +kernel
theorem dX9_ground_16 : decode cX9_ground 16 = .ok (.bipush 7, 2) := by decide +kernel
theorem dX9_ground_18 : decode cX9_ground 18 = .ok (.if_icmp .eq 5, 3) := by decide +kernel
theorem dX9_ground_21 : decode cX9_ground 21 = .ok (.iconst (-1), 1) := by decide +kernel
theorem dX9_ground_22 : decode cX9_ground 22 = .ok (.ireturn, 1) := by decide +kernel
theorem dX9_ground_23 : decode cX9_ground 23 = .ok (.aload_n 0, 1) := by decide +kernel
theorem dX9_ground_24 : decode cX9_ground 24 = .ok (.iload_n 1, 1) := by decide +kernel
theorem dX9_ground_25 : decode cX9_ground 25 = .ok (.putfield 7, 3) := by decide +kernel
theorem dX9_ground_28 : decode cX9_ground 28 = .ok (.aload_n 0, 1) := by decide +kernel
theorem dX9_ground_29 : decode cX9_ground 29 = .ok (.iconst 1, 1) := by decide +kernel
theorem dX9_ground_30 : decode cX9_ground 30 = .ok (.iconst 1, 1) := by decide +kernel
theorem dX9_ground_31 : decode cX9_ground 31 = .ok (.iconst 1, 1) := by decide +kernel
theorem dX9_ground_32 : decode cX9_ground 32 = .ok (.invokevirtual 81, 3) := by decide +kernel
theorem dX9_ground_35 : decode cX9_ground 35 = .ok (.iconst 0, 1) := by decide +kernel
theorem dX9_ground_36 : decode cX9_ground 36 = .ok (.istore_n 2, 1) := by decide +kernel
theorem dX9_ground_37 : decode cX9_ground 37 = .ok (.iload_n 2, 1) := by decide +kernel
theorem dX9_ground_38 : decode cX9_ground 38 = .ok (.iconst 4, 1) := by decide +kernel
theorem dX9_ground_39 : decode cX9_ground 39 = .ok (.if_icmp .ge 16, 3) := by decide +kernel
theorem dX9_ground_42 : decode cX9_ground 42 = .ok (.aload_n 0, 1) := by decide +kernel
theorem dX9_ground_43 : decode cX9_ground 43 = .ok (.getfield 26, 3) := by decide +kernel
theorem dX9_ground_46 : decode cX9_ground 46 = .ok (.iload_n 2, 1) := by decide +kernel
theorem dX9_ground_47 : decode cX9_ground 47 = .ok (.iconst 0, 1) := by decide +kernel
theorem dX9_ground_48 : decode cX9_ground 48 = .ok (.bastore, 1) := by decide +kernel
theorem dX9_ground_49 : decode cX9_ground 49 = .ok (.iinc 2 1, 3) := by decide +kernel
theorem dX9_ground_52 : decode cX9_ground 52 = .ok (.goto (-15), 3) := by decide +kernel
theorem dX9_ground_55 : decode cX9_ground 55 = .ok (.iconst 1, 1) := by decide +kernel
theorem dX9_ground_56 : decode cX9_ground 56 = .ok (.ireturn, 1) := by decide +kernel
theorem dX9_areSizes_0 : decode cX9_areSizes 0 = .ok (.iload_n 0, 1) := by decide +kernel
theorem dX9_areSizes_1 : decode cX9_areSizes 1 = .ok (.i2l, 1) := by decide +kernel
theorem dX9_areSizes_2 : decode cX9_areSizes 2 = .ok (.lconst 1, 1) := by decide +kernel
theorem dX9_areSizes_3 : decode cX9_areSizes 3 = .ok (.ldc2_w 95, 3) := by decide +kernel
theorem dX9_areSizes_6 : decode cX9_areSizes 6 = .ok (.invokestatic 97, 3) := by decide +kernel
theorem dX9_areSizes_9 : decode cX9_areSizes 9 = .ok (.ifCond .eq 31, 3) := by decide +kernel
theorem dX9_areSizes_12 : decode cX9_areSizes 12 = .ok (.iload_n 1, 1) := by decide +kernel
theorem dX9_areSizes_13 : decode cX9_areSizes 13 = .ok (.i2l, 1) := by decide +kernel
theorem dX9_areSizes_14 : decode cX9_areSizes 14 = .ok (.lconst 1, 1) := by decide +kernel
theorem dX9_areSizes_15 : decode cX9_areSizes 15 = .ok (.ldc2_w 95, 3) := by decide +kernel
theorem dX9_areSizes_18 : decode cX9_areSizes 18 = .ok (.invokestatic 97, 3) := by decide +kernel
theorem dX9_areSizes_21 : decode cX9_areSizes 21 = .ok (.ifCond .eq 19, 3) := by decide +kernel
theorem dX9_areSizes_24 : decode cX9_areSizes 24 = .ok (.iload_n 2, 1) := by decide +kernel
theorem dX9_areSizes_25 : decode cX9_areSizes 25 = .ok (.i2l, 1) := by decide +kernel
theorem dX9_areSizes_26 : decode cX9_areSizes 26 = .ok (.lconst 1, 1) := by decide +kernel
theorem dX9_areSizes_27 : decode cX9_areSizes 27 = .ok (.ldc2_w 95, 3) := by decide +kernel
theorem dX9_areSizes_30 : decode cX9_areSizes 30 = .ok (.invokestatic 97, 3) := by decide +kernel
theorem dX9_areSizes_33 : decode cX9_areSizes 33 = .ok (.ifCond .eq 7, 3) := by decide +kernel
theorem dX9_areSizes_36 : decode cX9_areSizes 36 = .ok (.iconst 1, 1) := by decide +kernel
theorem dX9_areSizes_37 : decode cX9_areSizes 37 = .ok (.goto 4, 3) := by decide +kernel
theorem dX9_areSizes_40 : decode cX9_areSizes 40 = .ok (.iconst 0, 1) := by decide +kernel
theorem dX9_areSizes_41 : decode cX9_areSizes 41 = .ok (.ireturn, 1) := by decide +kernel
theorem dX9_box_0 : decode cX9_box 0 = .ok (.iload_n 1, 1) := by decide +kernel
theorem dX9_box_1 : decode cX9_box 1 = .ok (.iload_n 2, 1) := by decide +kernel
theorem dX9_box_2 : decode cX9_box 2 = .ok (.iload_n 3, 1) := by decide +kernel
theorem dX9_box_3 : decode cX9_box 3 = .ok (.invokestatic 101, 3) := by decide +kernel
theorem dX9_box_6 : decode cX9_box 6 = .ok (.ifCond .ne 5, 3) := by decide +kernel
theorem dX9_box_9 : decode cX9_box 9 = .ok (.iconst (-1), 1) := by decide +kernel
theorem dX9_box_10 : decode cX9_box 10 = .ok (.ireturn, 1) := by decide +kernel
theorem dX9_box_11 : decode cX9_box 11 = .ok (.aload_n 0, 1) := by decide +kernel
theorem dX9_box_12 : decode cX9_box 12 = .ok (.iload_n 1, 1) := by decide +kernel
theorem dX9_box_13 : decode cX9_box 13 = .ok (.iload_n 2, 1) := by decide +kernel
theorem dX9_box_14 : decode cX9_box 14 = .ok (.iload_n 3, 1) := by decide +kernel
theorem dX9_box_15 : decode cX9_box 15 = .ok (.invokevirtual 81, 3) := by decide +kernel
theorem dX9_box_18 : decode cX9_box 18 = .ok (.iconst 1, 1) := by decide +kernel
theorem dX9_box_19 : decode cX9_box 19 = .ok (.ireturn, 1) := by decide +kernel
theorem dX9_tables_0 : decode cX9_tables 0 = .ok (.iload_n 1, 1) := by decide +kernel
theorem dX9_tables_1 : decode cX9_tables 1 = .ok (.iload_n 2, 1) := by decide +kernel
theorem dX9_tables_2 : decode cX9_tables 2 = .ok (.iload_n 3, 1) := by decide +kernel
theorem dX9_tables_3 : decode cX9_tables 3 = .ok (.invokestatic 101, 3) := by decide +kernel
theorem dX9_tables_6 : decode cX9_tables 6 = .ok (.ifCond .ne 5, 3) := by decide +kernel
theorem dX9_tables_9 : decode cX9_tables 9 = .ok (.iconst (-1), 1) := by decide +kernel
theorem dX9_tables_10 : decode cX9_tables 10 = .ok (.ireturn, 1) := by decide +kernel
theorem dX9_tables_11 : decode cX9_tables 11 = .ok (.iload_n 1, 1) := by decide +kernel
theorem dX9_tables_12 : decode cX9_tables 12 = .ok (.iload_n 2, 1) := by decide +kernel
theorem dX9_tables_13 : decode cX9_tables 13 = .ok (.imul, 1) := by decide +kernel
theorem dX9_tables_14 : decode cX9_tables 14 = .ok (.iload_n 2, 1) := by decide +kernel
theorem dX9_tables_15 : decode cX9_tables 15 = .ok (.iload_n 3, 1) := by decide +kernel
theorem dX9_tables_16 : decode cX9_tables 16 = .ok (.imul, 1) := by decide +kernel
theorem dX9_tables_17 : decode cX9_tables 17 = .ok (.iload_n 1, 1) := by decide +kernel
theorem dX9_tables_18 : decode cX9_tables 18 = .ok (.iload_n 3, 1) := by decide +kernel
theorem dX9_tables_19 : decode cX9_tables 19 = .ok (.imul, 1) := by decide +kernel
theorem dX9_tables_20 : decode cX9_tables 20 = .ok (.invokestatic 101, 3) := by decide +kernel
theorem dX9_tables_23 : decode cX9_tables 23 = .ok (.ifCond .ne 6, 3) := by decide +kernel
theorem dX9_tables_26 : decode cX9_tables 26 = .ok (.bipush (-3), 2) := by decide +kernel
theorem dX9_tables_28 : decode cX9_tables 28 = .ok (.ireturn, 1) := by decide +kernel
theorem dX9_tables_29 : decode cX9_tables 29 = .ok (.aload_n 0, 1) := by decide +kernel
theorem dX9_tables_30 : decode cX9_tables 30 = .ok (.iload_n 1, 1) := by decide +kernel
theorem dX9_tables_31 : decode cX9_tables 31 = .ok (.iload_n 2, 1) := by decide +kernel
theorem dX9_tables_32 : decode cX9_tables 32 = .ok (.imul, 1) := by decide +kernel
theorem dX9_tables_33 : decode cX9_tables 33 = .ok (.iload_n 2, 1) := by decide +kernel
theorem dX9_tables_34 : decode cX9_tables 34 = .ok (.iload_n 3, 1) := by decide +kernel
theorem dX9_tables_35 : decode cX9_tables 35 = .ok (.imul, 1) := by decide +kernel
theorem dX9_tables_36 : decode cX9_tables 36 = .ok (.iload_n 1, 1) := by decide +kernel
theorem dX9_tables_37 : decode cX9_tables 37 = .ok (.iload_n 3, 1) := by decide +kernel
theorem dX9_tables_38 : decode cX9_tables 38 = .ok (.imul, 1) := by decide +kernel
theorem dX9_tables_39 : decode cX9_tables 39 = .ok (.invokevirtual 81, 3) := by decide +kernel
theorem dX9_tables_42 : decode cX9_tables 42 = .ok (.iconst 0, 1) := by decide +kernel
theorem dX9_tables_43 : decode cX9_tables 43 = .ok (.istore 4, 2) := by decide +kernel
theorem dX9_tables_45 : decode cX9_tables 45 = .ok (.iload 4, 2) := by decide +kernel
theorem dX9_tables_47 : decode cX9_tables 47 = .ok (.iload_n 1, 1) := by decide +kernel
theorem dX9_tables_48 : decode cX9_tables 48 = .ok (.if_icmp .ge 74, 3) := by decide +kernel
theorem dX9_tables_51 : decode cX9_tables 51 = .ok (.iconst 0, 1) := by decide +kernel
theorem dX9_tables_52 : decode cX9_tables 52 = .ok (.istore 5, 2) := by decide +kernel
theorem dX9_tables_54 : decode cX9_tables 54 = .ok (.iload 5, 2) := by decide +kernel
theorem dX9_tables_56 : decode cX9_tables 56 = .ok (.iload_n 2, 1) := by decide +kernel
theorem dX9_tables_57 : decode cX9_tables 57 = .ok (.if_icmp .ge 59, 3) := by decide +kernel
theorem dX9_tables_60 : decode cX9_tables 60 = .ok (.iconst 0, 1) := by decide +kernel
theorem dX9_tables_61 : decode cX9_tables 61 = .ok (.istore 6, 2) := by decide +kernel
theorem dX9_tables_63 : decode cX9_tables 63 = .ok (.iload 6, 2) := by decide +kernel
theorem dX9_tables_65 : decode cX9_tables 65 = .ok (.iload_n 3, 1) := by decide +kernel
theorem dX9_tables_66 : decode cX9_tables 66 = .ok (.if_icmp .ge 44, 3) := by decide +kernel
theorem dX9_tables_69 : decode cX9_tables 69 = .ok (.aload_n 0, 1) := by decide +kernel
theorem dX9_tables_70 : decode cX9_tables 70 = .ok (.getfield 17, 3) := by decide +kernel
theorem dX9_tables_73 : decode cX9_tables 73 = .ok (.bipush 81, 2) := by decide +kernel
theorem dX9_tables_75 : decode cX9_tables 75 = .ok (.iload_n 2, 1) := by decide +kernel
theorem dX9_tables_76 : decode cX9_tables 76 = .ok (.iload 4, 2) := by decide +kernel
theorem dX9_tables_78 : decode cX9_tables 78 = .ok (.imul, 1) := by decide +kernel
theorem dX9_tables_79 : decode cX9_tables 79 = .ok (.iload 5, 2) := by decide +kernel
theorem dX9_tables_81 : decode cX9_tables 81 = .ok (.iadd, 1) := by decide +kernel
theorem dX9_tables_82 : decode cX9_tables 82 = .ok (.imul, 1) := by decide +kernel
theorem dX9_tables_83 : decode cX9_tables 83 = .ok (.bipush 9, 2) := by decide +kernel
theorem dX9_tables_85 : decode cX9_tables 85 = .ok (.iload_n 3, 1) := by decide +kernel
theorem dX9_tables_86 : decode cX9_tables 86 = .ok (.iload 5, 2) := by decide +kernel
theorem dX9_tables_88 : decode cX9_tables 88 = .ok (.imul, 1) := by decide +kernel
theorem dX9_tables_89 : decode cX9_tables 89 = .ok (.iload 6, 2) := by decide +kernel
theorem dX9_tables_91 : decode cX9_tables 91 = .ok (.iadd, 1) := by decide +kernel
theorem dX9_tables_92 : decode cX9_tables 92 = .ok (.imul, 1) := by decide +kernel
theorem dX9_tables_93 : decode cX9_tables 93 = .ok (.iadd, 1) := by decide +kernel
theorem dX9_tables_94 : decode cX9_tables 94 = .ok (.iload_n 3, 1) := by decide +kernel
theorem dX9_tables_95 : decode cX9_tables 95 = .ok (.iload 4, 2) := by decide +kernel
theorem dX9_tables_97 : decode cX9_tables 97 = .ok (.imul, 1) := by decide +kernel
theorem dX9_tables_98 : decode cX9_tables 98 = .ok (.iadd, 1) := by decide +kernel
theorem dX9_tables_99 : decode cX9_tables 99 = .ok (.iload 6, 2) := by decide +kernel
theorem dX9_tables_101 : decode cX9_tables 101 = .ok (.iadd, 1) := by decide +kernel
theorem dX9_tables_102 : decode cX9_tables 102 = .ok (.iconst 1, 1) := by decide +kernel
theorem dX9_tables_103 : decode cX9_tables 103 = .ok (.iastore, 1) := by decide +kernel
theorem dX9_tables_104 : decode cX9_tables 104 = .ok (.iinc 6 1, 3) := by decide +kernel
theorem dX9_tables_107 : decode cX9_tables 107 = .ok (.goto (-44), 3) := by decide +kernel
theorem dX9_tables_110 : decode cX9_tables 110 = .ok (.iinc 5 1, 3) := by decide +kernel
theorem dX9_tables_113 : decode cX9_tables 113 = .ok (.goto (-59), 3) := by decide +kernel
theorem dX9_tables_116 : decode cX9_tables 116 = .ok (.iinc 4 1, 3) := by decide +kernel
theorem dX9_tables_119 : decode cX9_tables 119 = .ok (.goto (-74), 3) := by decide +kernel
theorem dX9_tables_122 : decode cX9_tables 122 = .ok (.iconst 1, 1) := by decide +kernel
theorem dX9_tables_123 : decode cX9_tables 123 = .ok (.ireturn, 1) := by decide +kernel
theorem dX9_rows_0 : decode cX9_rows 0 = .ok (.iload_n 1, 1) := by decide +kernel
theorem dX9_rows_1 : decode cX9_rows 1 = .ok (.i2l, 1) := by decide +kernel
theorem dX9_rows_2 : decode cX9_rows 2 = .ok (.lconst 1, 1) := by decide +kernel
theorem dX9_rows_3 : decode cX9_rows 3 = .ok (.ldc2_w 95, 3) := by decide +kernel
theorem dX9_rows_6 : decode cX9_rows 6 = .ok (.invokestatic 97, 3) := by decide +kernel
theorem dX9_rows_9 : decode cX9_rows 9 = .ok (.ifCond .eq 27, 3) := by decide +kernel
theorem dX9_rows_12 : decode cX9_rows 12 = .ok (.iload_n 2, 1) := by decide +kernel
theorem dX9_rows_13 : decode cX9_rows 13 = .ok (.i2l, 1) := by decide +kernel
theorem dX9_rows_14 : decode cX9_rows 14 = .ok (.lconst 1, 1) := by decide +kernel
theorem dX9_rows_15 : decode cX9_rows 15 = .ok (.ldc2_w 95, 3) := by decide +kernel
theorem dX9_rows_18 : decode cX9_rows 18 = .ok (.invokestatic 97, 3) := by decide +kernel
theorem dX9_rows_21 : decode cX9_rows 21 = .ok (.ifCond .eq 15, 3) := by decide +kernel
theorem dX9_rows_24 : decode cX9_rows 24 = .ok (.iload_n 3, 1) := by decide +kernel
theorem dX9_rows_25 : decode cX9_rows 25 = .ok (.i2l, 1) := by decide +kernel
theorem dX9_rows_26 : decode cX9_rows 26 = .ok (.lconst 0, 1) := by decide +kernel
theorem dX9_rows_27 : decode cX9_rows 27 = .ok (.ldc2_w 95, 3) := by decide +kernel
theorem dX9_rows_30 : decode cX9_rows 30 = .ok (.invokestatic 97, 3) := by decide +kernel
theorem dX9_rows_33 : decode cX9_rows 33 = .ok (.ifCond .ne 5, 3) := by decide +kernel
theorem dX9_rows_36 : decode cX9_rows 36 = .ok (.iconst (-1), 1) := by decide +kernel
theorem dX9_rows_37 : decode cX9_rows 37 = .ok (.ireturn, 1) := by decide +kernel
theorem dX9_rows_38 : decode cX9_rows 38 = .ok (.iload_n 3, 1) := by decide +kernel
theorem dX9_rows_39 : decode cX9_rows 39 = .ok (.ifCond .ne 11, 3) := by decide +kernel
theorem dX9_rows_42 : decode cX9_rows 42 = .ok (.iload_n 1, 1) := by decide +kernel
theorem dX9_rows_43 : decode cX9_rows 43 = .ok (.iload_n 2, 1) := by decide +kernel
theorem dX9_rows_44 : decode cX9_rows 44 = .ok (.iadd, 1) := by decide +kernel
theorem dX9_rows_45 : decode cX9_rows 45 = .ok (.iconst 1, 1) := by decide +kernel
theorem dX9_rows_46 : decode cX9_rows 46 = .ok (.isub, 1) := by decide +kernel
theorem dX9_rows_47 : decode cX9_rows 47 = .ok (.goto 4, 3) := by decide +kernel
theorem dX9_rows_50 : decode cX9_rows 50 = .ok (.iload_n 3, 1) := by decide +kernel
theorem dX9_rows_51 : decode cX9_rows 51 = .ok (.istore 4, 2) := by decide +kernel
theorem dX9_rows_53 : decode cX9_rows 53 = .ok (.iload 4, 2) := by decide +kernel
theorem dX9_rows_55 : decode cX9_rows 55 = .ok (.bipush 9, 2) := by decide +kernel
theorem dX9_rows_57 : decode cX9_rows 57 = .ok (.if_icmp .le 6, 3) := by decide +kernel
theorem dX9_rows_60 : decode cX9_rows 60 = .ok (.bipush (-3), 2) := by decide +kernel
theorem dX9_rows_62 : decode cX9_rows 62 = .ok (.ireturn, 1) := by decide +kernel
theorem dX9_rows_63 : decode cX9_rows 63 = .ok (.aload_n 0, 1) := by decide +kernel
theorem dX9_rows_64 : decode cX9_rows 64 = .ok (.iload_n 1, 1) := by decide +kernel
theorem dX9_rows_65 : decode cX9_rows 65 = .ok (.iload_n 2, 1) := by decide +kernel
theorem dX9_rows_66 : decode cX9_rows 66 = .ok (.iload 4, 2) := by decide +kernel
theorem dX9_rows_68 : decode cX9_rows 68 = .ok (.invokevirtual 81, 3) := by decide +kernel
theorem dX9_rows_71 : decode cX9_rows 71 = .ok (.iconst 0, 1) := by decide +kernel
theorem dX9_rows_72 : decode cX9_rows 72 = .ok (.istore 5, 2) := by decide +kernel
theorem dX9_rows_74 : decode cX9_rows 74 = .ok (.iload 5, 2) := by decide +kernel
theorem dX9_rows_76 : decode cX9_rows 76 = .ok (.iload_n 1, 1) := by decide +kernel
theorem dX9_rows_77 : decode cX9_rows 77 = .ok (.if_icmp .ge 50, 3) := by decide +kernel
theorem dX9_rows_80 : decode cX9_rows 80 = .ok (.iconst 0, 1) := by decide +kernel
theorem dX9_rows_81 : decode cX9_rows 81 = .ok (.istore 6, 2) := by decide +kernel
theorem dX9_rows_83 : decode cX9_rows 83 = .ok (.iload 6, 2) := by decide +kernel
theorem dX9_rows_85 : decode cX9_rows 85 = .ok (.iload_n 2, 1) := by decide +kernel
theorem dX9_rows_86 : decode cX9_rows 86 = .ok (.if_icmp .ge 35, 3) := by decide +kernel
theorem dX9_rows_89 : decode cX9_rows 89 = .ok (.aload_n 0, 1) := by decide +kernel
theorem dX9_rows_90 : decode cX9_rows 90 = .ok (.getfield 17, 3) := by decide +kernel
theorem dX9_rows_93 : decode cX9_rows 93 = .ok (.bipush 81, 2) := by decide +kernel
theorem dX9_rows_95 : decode cX9_rows 95 = .ok (.iload 5, 2) := by decide +kernel
theorem dX9_rows_97 : decode cX9_rows 97 = .ok (.imul, 1) := by decide +kernel
theorem dX9_rows_98 : decode cX9_rows 98 = .ok (.bipush 9, 2) := by decide +kernel
theorem dX9_rows_100 : decode cX9_rows 100 = .ok (.iload 6, 2) := by decide +kernel
theorem dX9_rows_102 : decode cX9_rows 102 = .ok (.imul, 1) := by decide +kernel
theorem dX9_rows_103 : decode cX9_rows 103 = .ok (.iadd, 1) := by decide +kernel
theorem dX9_rows_104 : decode cX9_rows 104 = .ok (.iload 5, 2) := by decide +kernel
theorem dX9_rows_106 : decode cX9_rows 106 = .ok (.iload 6, 2) := by decide +kernel
theorem dX9_rows_108 : decode cX9_rows 108 = .ok (.iadd, 1) := by decide +kernel
theorem dX9_rows_109 : decode cX9_rows 109 = .ok (.iload 4, 2) := by decide +kernel
theorem dX9_rows_111 : decode cX9_rows 111 = .ok (.irem, 1) := by decide +kernel
theorem dX9_rows_112 : decode cX9_rows 112 = .ok (.iadd, 1) := by decide +kernel
theorem dX9_rows_113 : decode cX9_rows 113 = .ok (.iconst 1, 1) := by decide +kernel
theorem dX9_rows_114 : decode cX9_rows 114 = .ok (.iastore, 1) := by decide +kernel
theorem dX9_rows_115 : decode cX9_rows 115 = .ok (.iinc 6 1, 3) := by decide +kernel
theorem dX9_rows_118 : decode cX9_rows 118 = .ok (.goto (-35), 3) := by decide +kernel
theorem dX9_rows_121 : decode cX9_rows 121 = .ok (.iinc 5 1, 3) := by decide +kernel
theorem dX9_rows_124 : decode cX9_rows 124 = .ok (.goto (-50), 3) := by decide +kernel
theorem dX9_rows_127 : decode cX9_rows 127 = .ok (.iconst 1, 1) := by decide +kernel
theorem dX9_rows_128 : decode cX9_rows 128 = .ok (.ireturn, 1) := by decide +kernel
theorem dX9_isPlace_0 : decode cX9_isPlace 0 = .ok (.iload_n 1, 1) := by decide +kernel
theorem dX9_isPlace_1 : decode cX9_isPlace 1 = .ok (.i2l, 1) := by decide +kernel
theorem dX9_isPlace_2 : decode cX9_isPlace 2 = .ok (.lconst 0, 1) := by decide +kernel
theorem dX9_isPlace_3 : decode cX9_isPlace 3 = .ok (.aload_n 0, 1) := by decide +kernel
theorem dX9_isPlace_4 : decode cX9_isPlace 4 = .ok (.getfield 13, 3) := by decide +kernel
theorem dX9_isPlace_7 : decode cX9_isPlace 7 = .ok (.iconst 0, 1) := by decide +kernel
theorem dX9_isPlace_8 : decode cX9_isPlace 8 = .ok (.iaload, 1) := by decide +kernel
theorem dX9_isPlace_9 : decode cX9_isPlace 9 = .ok (.iconst 1, 1) := by decide +kernel
theorem dX9_isPlace_10 : decode cX9_isPlace 10 = .ok (.isub, 1) := by decide +kernel
theorem dX9_isPlace_11 : decode cX9_isPlace 11 = .ok (.i2l, 1) := by decide +kernel
theorem dX9_isPlace_12 : decode cX9_isPlace 12 = .ok (.invokestatic 97, 3) := by decide +kernel
theorem dX9_isPlace_15 : decode cX9_isPlace 15 = .ok (.ifCond .eq 43, 3) := by decide +kernel
theorem dX9_isPlace_18 : decode cX9_isPlace 18 = .ok (.iload_n 2, 1) := by decide +kernel
theorem dX9_isPlace_19 : decode cX9_isPlace 19 = .ok (.i2l, 1) := by decide +kernel
theorem dX9_isPlace_20 : decode cX9_isPlace 20 = .ok (.lconst 0, 1) := by decide +kernel
theorem dX9_isPlace_21 : decode cX9_isPlace 21 = .ok (.aload_n 0, 1) := by decide +kernel
theorem dX9_isPlace_22 : decode cX9_isPlace 22 = .ok (.getfield 13, 3) := by decide +kernel
theorem dX9_isPlace_25 : decode cX9_isPlace 25 = .ok (.iconst 1, 1) := by decide +kernel
theorem dX9_isPlace_26 : decode cX9_isPlace 26 = .ok (.iaload, 1) := by decide +kernel
theorem dX9_isPlace_27 : decode cX9_isPlace 27 = .ok (.iconst 1, 1) := by decide +kernel
theorem dX9_isPlace_28 : decode cX9_isPlace 28 = .ok (.isub, 1) := by decide +kernel
theorem dX9_isPlace_29 : decode cX9_isPlace 29 = .ok (.i2l, 1) := by decide +kernel
theorem dX9_isPlace_30 : decode cX9_isPlace 30 = .ok (.invokestatic 97, 3) := by decide +kernel
theorem dX9_isPlace_33 : decode cX9_isPlace 33 = .ok (.ifCond .eq 25, 3) := by decide +kernel
theorem dX9_isPlace_36 : decode cX9_isPlace 36 = .ok (.iload_n 3, 1) := by decide +kernel
theorem dX9_isPlace_37 : decode cX9_isPlace 37 = .ok (.i2l, 1) := by decide +kernel
theorem dX9_isPlace_38 : decode cX9_isPlace 38 = .ok (.lconst 0, 1) := by decide +kernel
theorem dX9_isPlace_39 : decode cX9_isPlace 39 = .ok (.aload_n 0, 1) := by decide +kernel
theorem dX9_isPlace_40 : decode cX9_isPlace 40 = .ok (.getfield 13, 3) := by decide +kernel
theorem dX9_isPlace_43 : decode cX9_isPlace 43 = .ok (.iconst 2, 1) := by decide +kernel
theorem dX9_isPlace_44 : decode cX9_isPlace 44 = .ok (.iaload, 1) := by decide +kernel
theorem dX9_isPlace_45 : decode cX9_isPlace 45 = .ok (.iconst 1, 1) := by decide +kernel
theorem dX9_isPlace_46 : decode cX9_isPlace 46 = .ok (.isub, 1) := by decide +kernel
theorem dX9_isPlace_47 : decode cX9_isPlace 47 = .ok (.i2l, 1) := by decide +kernel
theorem dX9_isPlace_48 : decode cX9_isPlace 48 = .ok (.invokestatic 97, 3) := by decide +kernel
theorem dX9_isPlace_51 : decode cX9_isPlace 51 = .ok (.ifCond .eq 7, 3) := by decide +kernel
theorem dX9_isPlace_54 : decode cX9_isPlace 54 = .ok (.iconst 1, 1) := by decide +kernel
theorem dX9_isPlace_55 : decode cX9_isPlace 55 = .ok (.goto 4, 3) := by decide +kernel
theorem dX9_isPlace_58 : decode cX9_isPlace 58 = .ok (.iconst 0, 1) := by decide +kernel
theorem dX9_isPlace_59 : decode cX9_isPlace 59 = .ok (.ireturn, 1) := by decide +kernel
theorem dX9_set_0 : decode cX9_set 0 = .ok (.aload_n 0, 1) := by decide +kernel
theorem dX9_set_1 : decode cX9_set 1 = .ok (.iload_n 1, 1) := by decide +kernel
theorem dX9_set_2 : decode cX9_set 2 = .ok (.iload_n 2, 1) := by decide +kernel
theorem dX9_set_3 : decode cX9_set 3 = .ok (.iload_n 3, 1) := by decide +kernel
theorem dX9_set_4 : decode cX9_set 4 = .ok (.invokevirtual 105, 3) := by decide +kernel
theorem dX9_set_7 : decode cX9_set 7 = .ok (.ifCond .eq 20, 3) := by decide +kernel
theorem dX9_set_10 : decode cX9_set 10 = .ok (.iload 4, 2) := by decide +kernel
theorem dX9_set_12 : decode cX9_set 12 = .ok (.i2l, 1) := by decide +kernel
theorem dX9_set_13 : decode cX9_set 13 = .ok (.lconst 0, 1) := by decide +kernel
theorem dX9_set_14 : decode cX9_set 14 = .ok (.aload_n 0, 1) := by decide +kernel
theorem dX9_set_15 : decode cX9_set 15 = .ok (.getfield 7, 3) := by decide +kernel
theorem dX9_set_18 : decode cX9_set 18 = .ok (.iconst 1, 1) := by decide +kernel
theorem dX9_set_19 : decode cX9_set 19 = .ok (.isub, 1) := by decide +kernel
theorem dX9_set_20 : decode cX9_set 20 = .ok (.i2l, 1) := by decide +kernel
theorem dX9_set_21 : decode cX9_set 21 = .ok (.invokestatic 97, 3) := by decide +kernel
theorem dX9_set_24 : decode cX9_set 24 = .ok (.ifCond .ne 5, 3) := by decide +kernel
theorem dX9_set_27 : decode cX9_set 27 = .ok (.iconst (-1), 1) := by decide +kernel
theorem dX9_set_28 : decode cX9_set 28 = .ok (.ireturn, 1) := by decide +kernel
theorem dX9_set_29 : decode cX9_set 29 = .ok (.aload_n 0, 1) := by decide +kernel
theorem dX9_set_30 : decode cX9_set 30 = .ok (.getfield 17, 3) := by decide +kernel
theorem dX9_set_33 : decode cX9_set 33 = .ok (.bipush 81, 2) := by decide +kernel
theorem dX9_set_35 : decode cX9_set 35 = .ok (.iload_n 1, 1) := by decide +kernel
theorem dX9_set_36 : decode cX9_set 36 = .ok (.imul, 1) := by decide +kernel
theorem dX9_set_37 : decode cX9_set 37 = .ok (.bipush 9, 2) := by decide +kernel
theorem dX9_set_39 : decode cX9_set 39 = .ok (.iload_n 2, 1) := by decide +kernel
theorem dX9_set_40 : decode cX9_set 40 = .ok (.imul, 1) := by decide +kernel
theorem dX9_set_41 : decode cX9_set 41 = .ok (.iadd, 1) := by decide +kernel
theorem dX9_set_42 : decode cX9_set 42 = .ok (.iload_n 3, 1) := by decide +kernel
theorem dX9_set_43 : decode cX9_set 43 = .ok (.iadd, 1) := by decide +kernel
theorem dX9_set_44 : decode cX9_set 44 = .ok (.iaload, 1) := by decide +kernel
theorem dX9_set_45 : decode cX9_set 45 = .ok (.istore 5, 2) := by decide +kernel
theorem dX9_set_47 : decode cX9_set 47 = .ok (.aload_n 0, 1) := by decide +kernel
theorem dX9_set_48 : decode cX9_set 48 = .ok (.getfield 17, 3) := by decide +kernel
theorem dX9_set_51 : decode cX9_set 51 = .ok (.bipush 81, 2) := by decide +kernel
theorem dX9_set_53 : decode cX9_set 53 = .ok (.iload_n 1, 1) := by decide +kernel
theorem dX9_set_54 : decode cX9_set 54 = .ok (.imul, 1) := by decide +kernel
theorem dX9_set_55 : decode cX9_set 55 = .ok (.bipush 9, 2) := by decide +kernel
theorem dX9_set_57 : decode cX9_set 57 = .ok (.iload_n 2, 1) := by decide +kernel
theorem dX9_set_58 : decode cX9_set 58 = .ok (.imul, 1) := by decide +kernel
theorem dX9_set_59 : decode cX9_set 59 = .ok (.iadd, 1) := by decide +kernel
theorem dX9_set_60 : decode cX9_set 60 = .ok (.iload_n 3, 1) := by decide +kernel
theorem dX9_set_61 : decode cX9_set 61 = .ok (.iadd, 1) := by decide +kernel
theorem dX9_set_62 : decode cX9_set 62 = .ok (.iload 4, 2) := by decide +kernel
theorem dX9_set_64 : decode cX9_set 64 = .ok (.iastore, 1) := by decide +kernel
theorem dX9_set_65 : decode cX9_set 65 = .ok (.aload_n 0, 1) := by decide +kernel
theorem dX9_set_66 : decode cX9_set 66 = .ok (.iconst 0, 1) := by decide +kernel
theorem dX9_set_67 : decode cX9_set 67 = .ok (.putfield 91, 3) := by decide +kernel
theorem dX9_set_70 : decode cX9_set 70 = .ok (.iload 5, 2) := by decide +kernel
theorem dX9_set_72 : decode cX9_set 72 = .ok (.ireturn, 1) := by decide +kernel
theorem dX9_at_0 : decode cX9_at 0 = .ok (.aload_n 0, 1) := by decide +kernel
theorem dX9_at_1 : decode cX9_at 1 = .ok (.iload_n 1, 1) := by decide +kernel
theorem dX9_at_2 : decode cX9_at 2 = .ok (.iload_n 2, 1) := by decide +kernel
theorem dX9_at_3 : decode cX9_at 3 = .ok (.iload_n 3, 1) := by decide +kernel
theorem dX9_at_4 : decode cX9_at 4 = .ok (.invokevirtual 105, 3) := by decide +kernel
theorem dX9_at_7 : decode cX9_at 7 = .ok (.ifCond .eq 22, 3) := by decide +kernel
theorem dX9_at_10 : decode cX9_at 10 = .ok (.aload_n 0, 1) := by decide +kernel
theorem dX9_at_11 : decode cX9_at 11 = .ok (.getfield 17, 3) := by decide +kernel
theorem dX9_at_14 : decode cX9_at 14 = .ok (.bipush 81, 2) := by decide +kernel
theorem dX9_at_16 : decode cX9_at 16 = .ok (.iload_n 1, 1) := by decide +kernel
theorem dX9_at_17 : decode cX9_at 17 = .ok (.imul, 1) := by decide +kernel
theorem dX9_at_18 : decode cX9_at 18 = .ok (.bipush 9, 2) := by decide +kernel
theorem dX9_at_20 : decode cX9_at 20 = .ok (.iload_n 2, 1) := by decide +kernel
theorem dX9_at_21 : decode cX9_at 21 = .ok (.imul, 1) := by decide +kernel
theorem dX9_at_22 : decode cX9_at 22 = .ok (.iadd, 1) := by decide +kernel
theorem dX9_at_23 : decode cX9_at 23 = .ok (.iload_n 3, 1) := by decide +kernel
theorem dX9_at_24 : decode cX9_at 24 = .ok (.iadd, 1) := by decide +kernel
theorem dX9_at_25 : decode cX9_at 25 = .ok (.iaload, 1) := by decide +kernel
theorem dX9_at_26 : decode cX9_at 26 = .ok (.goto 4, 3) := by decide +kernel
theorem dX9_at_29 : decode cX9_at 29 = .ok (.iconst (-1), 1) := by decide +kernel
theorem dX9_at_30 : decode cX9_at 30 = .ok (.ireturn, 1) := by decide +kernel
theorem dX9_filled_0 : decode cX9_filled 0 = .ok (.iconst 0, 1) := by decide +kernel
theorem dX9_filled_1 : decode cX9_filled 1 = .ok (.istore_n 1, 1) := by decide +kernel
theorem dX9_filled_2 : decode cX9_filled 2 = .ok (.iconst 0, 1) := by decide +kernel
theorem dX9_filled_3 : decode cX9_filled 3 = .ok (.istore_n 2, 1) := by decide +kernel
theorem dX9_filled_4 : decode cX9_filled 4 = .ok (.iload_n 2, 1) := by decide +kernel
theorem dX9_filled_5 : decode cX9_filled 5 = .ok (.sipush 729, 3) := by decide +kernel
theorem dX9_filled_8 : decode cX9_filled 8 = .ok (.if_icmp .ge 26, 3) := by decide +kernel
theorem dX9_filled_11 : decode cX9_filled 11 = .ok (.iload_n 1, 1) := by decide +kernel
theorem dX9_filled_12 : decode cX9_filled 12 = .ok (.aload_n 0, 1) := by decide +kernel
theorem dX9_filled_13 : decode cX9_filled 13 = .ok (.getfield 17, 3) := by decide +kernel
theorem dX9_filled_16 : decode cX9_filled 16 = .ok (.iload_n 2, 1) := by decide +kernel
theorem dX9_filled_17 : decode cX9_filled 17 = .ok (.iaload, 1) := by decide +kernel
theorem dX9_filled_18 : decode cX9_filled 18 = .ok (.ifCond .eq 7, 3) := by decide +kernel
theorem dX9_filled_21 : decode cX9_filled 21 = .ok (.iconst 1, 1) := by decide +kernel
theorem dX9_filled_22 : decode cX9_filled 22 = .ok (.goto 4, 3) := by decide +kernel
theorem dX9_filled_25 : decode cX9_filled 25 = .ok (.iconst 0, 1) := by decide +kernel
theorem dX9_filled_26 : decode cX9_filled 26 = .ok (.iadd, 1) := by decide +kernel
theorem dX9_filled_27 : decode cX9_filled 27 = .ok (.istore_n 1, 1) := by decide +kernel
theorem dX9_filled_28 : decode cX9_filled 28 = .ok (.iinc 2 1, 3) := by decide +kernel
theorem dX9_filled_31 : decode cX9_filled 31 = .ok (.goto (-27), 3) := by decide +kernel
theorem dX9_filled_34 : decode cX9_filled 34 = .ok (.iload_n 1, 1) := by decide +kernel
theorem dX9_filled_35 : decode cX9_filled 35 = .ok (.ireturn, 1) := by decide +kernel
theorem dX9_many_0 : decode cX9_many 0 = .ok (.iload_n 1, 1) := by decide +kernel
theorem dX9_many_1 : decode cX9_many 1 = .ok (.tableswitch 72 0 6 #[43, 48, 48, 48, 57, 62, 67], 43) := by decide +kernel
theorem dX9_many_44 : decode cX9_many 44 = .ok (.aload_n 0, 1) := by decide +kernel
theorem dX9_many_45 : decode cX9_many 45 = .ok (.getfield 7, 3) := by decide +kernel
theorem dX9_many_48 : decode cX9_many 48 = .ok (.ireturn, 1) := by decide +kernel
theorem dX9_many_49 : decode cX9_many 49 = .ok (.aload_n 0, 1) := by decide +kernel
theorem dX9_many_50 : decode cX9_many 50 = .ok (.getfield 13, 3) := by decide +kernel
theorem dX9_many_53 : decode cX9_many 53 = .ok (.iload_n 1, 1) := by decide +kernel
theorem dX9_many_54 : decode cX9_many 54 = .ok (.iconst 1, 1) := by decide +kernel
theorem dX9_many_55 : decode cX9_many 55 = .ok (.isub, 1) := by decide +kernel
theorem dX9_many_56 : decode cX9_many 56 = .ok (.iaload, 1) := by decide +kernel
theorem dX9_many_57 : decode cX9_many 57 = .ok (.ireturn, 1) := by decide +kernel
theorem dX9_many_58 : decode cX9_many 58 = .ok (.aload_n 0, 1) := by decide +kernel
theorem dX9_many_59 : decode cX9_many 59 = .ok (.getfield 85, 3) := by decide +kernel
theorem dX9_many_62 : decode cX9_many 62 = .ok (.ireturn, 1) := by decide +kernel
theorem dX9_many_63 : decode cX9_many 63 = .ok (.aload_n 0, 1) := by decide +kernel
theorem dX9_many_64 : decode cX9_many 64 = .ok (.invokevirtual 108, 3) := by decide +kernel
theorem dX9_many_67 : decode cX9_many 67 = .ok (.ireturn, 1) := by decide +kernel
theorem dX9_many_68 : decode cX9_many 68 = .ok (.aload_n 0, 1) := by decide +kernel
theorem dX9_many_69 : decode cX9_many 69 = .ok (.invokevirtual 112, 3) := by decide +kernel
theorem dX9_many_72 : decode cX9_many 72 = .ok (.ireturn, 1) := by decide +kernel
theorem dX9_many_73 : decode cX9_many 73 = .ok (.iconst (-1), 1) := by decide +kernel
theorem dX9_many_74 : decode cX9_many 74 = .ok (.ireturn, 1) := by decide +kernel
theorem dX9_rowsOf_0 : decode cX9_rowsOf 0 = .ok (.iconst 1, 1) := by decide +kernel
theorem dX9_rowsOf_1 : decode cX9_rowsOf 1 = .ok (.istore_n 2, 1) := by decide +kernel
theorem dX9_rowsOf_2 : decode cX9_rowsOf 2 = .ok (.iconst 0, 1) := by decide +kernel
theorem dX9_rowsOf_3 : decode cX9_rowsOf 3 = .ok (.istore_n 3, 1) := by decide +kernel
theorem dX9_rowsOf_4 : decode cX9_rowsOf 4 = .ok (.iload_n 3, 1) := by decide +kernel
theorem dX9_rowsOf_5 : decode cX9_rowsOf 5 = .ok (.aload_n 0, 1) := by decide +kernel
theorem dX9_rowsOf_6 : decode cX9_rowsOf 6 = .ok (.getfield 13, 3) := by decide +kernel
theorem dX9_rowsOf_9 : decode cX9_rowsOf 9 = .ok (.iload_n 1, 1) := by decide +kernel
theorem dX9_rowsOf_10 : decode cX9_rowsOf 10 = .ok (.iaload, 1) := by decide +kernel
theorem dX9_rowsOf_11 : decode cX9_rowsOf 11 = .ok (.if_icmp .ge 16, 3) := by decide +kernel
theorem dX9_rowsOf_14 : decode cX9_rowsOf 14 = .ok (.iload_n 2, 1) := by decide +kernel
theorem dX9_rowsOf_15 : decode cX9_rowsOf 15 = .ok (.aload_n 0, 1) := by decide +kernel
theorem dX9_rowsOf_16 : decode cX9_rowsOf 16 = .ok (.getfield 7, 3) := by decide +kernel
theorem dX9_rowsOf_19 : decode cX9_rowsOf 19 = .ok (.imul, 1) := by decide +kernel
theorem dX9_rowsOf_20 : decode cX9_rowsOf 20 = .ok (.istore_n 2, 1) := by decide +kernel
theorem dX9_rowsOf_21 : decode cX9_rowsOf 21 = .ok (.iinc 3 1, 3) := by decide +kernel
theorem dX9_rowsOf_24 : decode cX9_rowsOf 24 = .ok (.goto (-20), 3) := by decide +kernel
theorem dX9_rowsOf_27 : decode cX9_rowsOf 27 = .ok (.iload_n 2, 1) := by decide +kernel
theorem dX9_rowsOf_28 : decode cX9_rowsOf 28 = .ok (.ireturn, 1) := by decide +kernel
theorem dX9_isRow_0 : decode cX9_isRow 0 = .ok (.iload_n 1, 1) := by decide +kernel
theorem dX9_isRow_1 : decode cX9_isRow 1 = .ok (.i2l, 1) := by decide +kernel
theorem dX9_isRow_2 : decode cX9_isRow 2 = .ok (.lconst 0, 1) := by decide +kernel
theorem dX9_isRow_3 : decode cX9_isRow 3 = .ok (.aload_n 0, 1) := by decide +kernel
theorem dX9_isRow_4 : decode cX9_isRow 4 = .ok (.iload_n 2, 1) := by decide +kernel
theorem dX9_isRow_5 : decode cX9_isRow 5 = .ok (.invokevirtual 115, 3) := by decide +kernel
theorem dX9_isRow_8 : decode cX9_isRow 8 = .ok (.iconst 1, 1) := by decide +kernel
theorem dX9_isRow_9 : decode cX9_isRow 9 = .ok (.isub, 1) := by decide +kernel
theorem dX9_isRow_10 : decode cX9_isRow 10 = .ok (.i2l, 1) := by decide +kernel
theorem dX9_isRow_11 : decode cX9_isRow 11 = .ok (.invokestatic 97, 3) := by decide +kernel
theorem dX9_isRow_14 : decode cX9_isRow 14 = .ok (.ireturn, 1) := by decide +kernel
theorem dX9_putRow_0 : decode cX9_putRow 0 = .ok (.iload_n 3, 1) := by decide +kernel
theorem dX9_putRow_1 : decode cX9_putRow 1 = .ok (.istore 4, 2) := by decide +kernel
theorem dX9_putRow_3 : decode cX9_putRow 3 = .ok (.iconst 0, 1) := by decide +kernel
theorem dX9_putRow_4 : decode cX9_putRow 4 = .ok (.istore 5, 2) := by decide +kernel
theorem dX9_putRow_6 : decode cX9_putRow 6 = .ok (.iload 5, 2) := by decide +kernel
theorem dX9_putRow_8 : decode cX9_putRow 8 = .ok (.bipush 9, 2) := by decide +kernel
theorem dX9_putRow_10 : decode cX9_putRow 10 = .ok (.if_icmp .ge 42, 3) := by decide +kernel
theorem dX9_putRow_13 : decode cX9_putRow 13 = .ok (.aload_n 0, 1) := by decide +kernel
theorem dX9_putRow_14 : decode cX9_putRow 14 = .ok (.getfield 20, 3) := by decide +kernel
theorem dX9_putRow_17 : decode cX9_putRow 17 = .ok (.bipush 27, 2) := by decide +kernel
theorem dX9_putRow_19 : decode cX9_putRow 19 = .ok (.iload_n 1, 1) := by decide +kernel
theorem dX9_putRow_20 : decode cX9_putRow 20 = .ok (.imul, 1) := by decide +kernel
theorem dX9_putRow_21 : decode cX9_putRow 21 = .ok (.bipush 9, 2) := by decide +kernel
theorem dX9_putRow_23 : decode cX9_putRow 23 = .ok (.iload_n 2, 1) := by decide +kernel
theorem dX9_putRow_24 : decode cX9_putRow 24 = .ok (.imul, 1) := by decide +kernel
theorem dX9_putRow_25 : decode cX9_putRow 25 = .ok (.iadd, 1) := by decide +kernel
theorem dX9_putRow_26 : decode cX9_putRow 26 = .ok (.iload 5, 2) := by decide +kernel
theorem dX9_putRow_28 : decode cX9_putRow 28 = .ok (.iadd, 1) := by decide +kernel
theorem dX9_putRow_29 : decode cX9_putRow 29 = .ok (.iload 4, 2) := by decide +kernel
theorem dX9_putRow_31 : decode cX9_putRow 31 = .ok (.aload_n 0, 1) := by decide +kernel
theorem dX9_putRow_32 : decode cX9_putRow 32 = .ok (.getfield 7, 3) := by decide +kernel
theorem dX9_putRow_35 : decode cX9_putRow 35 = .ok (.irem, 1) := by decide +kernel
theorem dX9_putRow_36 : decode cX9_putRow 36 = .ok (.iastore, 1) := by decide +kernel
theorem dX9_putRow_37 : decode cX9_putRow 37 = .ok (.iload 4, 2) := by decide +kernel
theorem dX9_putRow_39 : decode cX9_putRow 39 = .ok (.aload_n 0, 1) := by decide +kernel
theorem dX9_putRow_40 : decode cX9_putRow 40 = .ok (.getfield 7, 3) := by decide +kernel
theorem dX9_putRow_43 : decode cX9_putRow 43 = .ok (.idiv, 1) := by decide +kernel
theorem dX9_putRow_44 : decode cX9_putRow 44 = .ok (.istore 4, 2) := by decide +kernel
theorem dX9_putRow_46 : decode cX9_putRow 46 = .ok (.iinc 5 1, 3) := by decide +kernel
theorem dX9_putRow_49 : decode cX9_putRow 49 = .ok (.goto (-43), 3) := by decide +kernel
theorem dX9_putRow_52 : decode cX9_putRow 52 = .ok (.return_, 1) := by decide +kernel
theorem dX9_getRow_0 : decode cX9_getRow 0 = .ok (.iconst 0, 1) := by decide +kernel
theorem dX9_getRow_1 : decode cX9_getRow 1 = .ok (.istore_n 3, 1) := by decide +kernel
theorem dX9_getRow_2 : decode cX9_getRow 2 = .ok (.aload_n 0, 1) := by decide +kernel
theorem dX9_getRow_3 : decode cX9_getRow 3 = .ok (.getfield 13, 3) := by decide +kernel
theorem dX9_getRow_6 : decode cX9_getRow 6 = .ok (.iload_n 2, 1) := by decide +kernel
theorem dX9_getRow_7 : decode cX9_getRow 7 = .ok (.iaload, 1) := by decide +kernel
theorem dX9_getRow_8 : decode cX9_getRow 8 = .ok (.iconst 1, 1) := by decide +kernel
theorem dX9_getRow_9 : decode cX9_getRow 9 = .ok (.isub, 1) := by decide +kernel
theorem dX9_getRow_10 : decode cX9_getRow 10 = .ok (.istore 4, 2) := by decide +kernel
theorem dX9_getRow_12 : decode cX9_getRow 12 = .ok (.iload 4, 2) := by decide +kernel
theorem dX9_getRow_14 : decode cX9_getRow 14 = .ok (.ifCond .lt 34, 3) := by decide +kernel
theorem dX9_getRow_17 : decode cX9_getRow 17 = .ok (.iload_n 3, 1) := by decide +kernel
theorem dX9_getRow_18 : decode cX9_getRow 18 = .ok (.aload_n 0, 1) := by decide +kernel
theorem dX9_getRow_19 : decode cX9_getRow 19 = .ok (.getfield 7, 3) := by decide +kernel
theorem dX9_getRow_22 : decode cX9_getRow 22 = .ok (.imul, 1) := by decide +kernel
theorem dX9_getRow_23 : decode cX9_getRow 23 = .ok (.aload_n 0, 1) := by decide +kernel
theorem dX9_getRow_24 : decode cX9_getRow 24 = .ok (.getfield 20, 3) := by decide +kernel
theorem dX9_getRow_27 : decode cX9_getRow 27 = .ok (.bipush 27, 2) := by decide +kernel
theorem dX9_getRow_29 : decode cX9_getRow 29 = .ok (.iload_n 1, 1) := by decide +kernel
theorem dX9_getRow_30 : decode cX9_getRow 30 = .ok (.imul, 1) := by decide +kernel
theorem dX9_getRow_31 : decode cX9_getRow 31 = .ok (.bipush 9, 2) := by decide +kernel
theorem dX9_getRow_33 : decode cX9_getRow 33 = .ok (.iload_n 2, 1) := by decide +kernel
theorem dX9_getRow_34 : decode cX9_getRow 34 = .ok (.imul, 1) := by decide +kernel
theorem dX9_getRow_35 : decode cX9_getRow 35 = .ok (.iadd, 1) := by decide +kernel
theorem dX9_getRow_36 : decode cX9_getRow 36 = .ok (.iload 4, 2) := by decide +kernel
theorem dX9_getRow_38 : decode cX9_getRow 38 = .ok (.iadd, 1) := by decide +kernel
theorem dX9_getRow_39 : decode cX9_getRow 39 = .ok (.iaload, 1) := by decide +kernel
theorem dX9_getRow_40 : decode cX9_getRow 40 = .ok (.iadd, 1) := by decide +kernel
theorem dX9_getRow_41 : decode cX9_getRow 41 = .ok (.istore_n 3, 1) := by decide +kernel
theorem dX9_getRow_42 : decode cX9_getRow 42 = .ok (.iinc 4 (-1), 3) := by decide +kernel
theorem dX9_getRow_45 : decode cX9_getRow 45 = .ok (.goto (-33), 3) := by decide +kernel
theorem dX9_getRow_48 : decode cX9_getRow 48 = .ok (.iload_n 3, 1) := by decide +kernel
theorem dX9_getRow_49 : decode cX9_getRow 49 = .ok (.ireturn, 1) := by decide +kernel
theorem dX9_time_0 : decode cX9_time 0 = .ok (.aload_n 0, 1) := by decide +kernel
theorem dX9_time_1 : decode cX9_time 1 = .ok (.iload_n 1, 1) := by decide +kernel
theorem dX9_time_2 : decode cX9_time 2 = .ok (.iconst 0, 1) := by decide +kernel
theorem dX9_time_3 : decode cX9_time 3 = .ok (.invokevirtual 119, 3) := by decide +kernel
theorem dX9_time_6 : decode cX9_time 6 = .ok (.ifCond .eq 21, 3) := by decide +kernel
theorem dX9_time_9 : decode cX9_time 9 = .ok (.aload_n 0, 1) := by decide +kernel
theorem dX9_time_10 : decode cX9_time 10 = .ok (.iload_n 2, 1) := by decide +kernel
theorem dX9_time_11 : decode cX9_time 11 = .ok (.iconst 1, 1) := by decide +kernel
theorem dX9_time_12 : decode cX9_time 12 = .ok (.invokevirtual 119, 3) := by decide +kernel
theorem dX9_time_15 : decode cX9_time 15 = .ok (.ifCond .eq 12, 3) := by decide +kernel
theorem dX9_time_18 : decode cX9_time 18 = .ok (.aload_n 0, 1) := by decide +kernel
theorem dX9_time_19 : decode cX9_time 19 = .ok (.iload_n 3, 1) := by decide +kernel
theorem dX9_time_20 : decode cX9_time 20 = .ok (.iconst 2, 1) := by decide +kernel
theorem dX9_time_21 : decode cX9_time 21 = .ok (.invokevirtual 119, 3) := by decide +kernel
theorem dX9_time_24 : decode cX9_time 24 = .ok (.ifCond .ne 5, 3) := by decide +kernel
theorem dX9_time_27 : decode cX9_time 27 = .ok (.iconst (-1), 1) := by decide +kernel
theorem dX9_time_28 : decode cX9_time 28 = .ok (.ireturn, 1) := by decide +kernel
theorem dX9_time_29 : decode cX9_time 29 = .ok (.aload_n 0, 1) := by decide +kernel
theorem dX9_time_30 : decode cX9_time 30 = .ok (.getfield 85, 3) := by decide +kernel
theorem dX9_time_33 : decode cX9_time 33 = .ok (.bipush 40, 2) := by decide +kernel
theorem dX9_time_35 : decode cX9_time 35 = .ok (.if_icmp .ne 6, 3) := by decide +kernel
theorem dX9_time_38 : decode cX9_time 38 = .ok (.bipush (-2), 2) := by decide +kernel
theorem dX9_time_40 : decode cX9_time 40 = .ok (.ireturn, 1) := by decide +kernel
theorem dX9_time_41 : decode cX9_time 41 = .ok (.aload_n 0, 1) := by decide +kernel
theorem dX9_time_42 : decode cX9_time 42 = .ok (.aload_n 0, 1) := by decide +kernel
theorem dX9_time_43 : decode cX9_time 43 = .ok (.getfield 85, 3) := by decide +kernel
theorem dX9_time_46 : decode cX9_time 46 = .ok (.iconst 0, 1) := by decide +kernel
theorem dX9_time_47 : decode cX9_time 47 = .ok (.iload_n 1, 1) := by decide +kernel
theorem dX9_time_48 : decode cX9_time 48 = .ok (.invokevirtual 123, 3) := by decide +kernel
theorem dX9_time_51 : decode cX9_time 51 = .ok (.aload_n 0, 1) := by decide +kernel
theorem dX9_time_52 : decode cX9_time 52 = .ok (.aload_n 0, 1) := by decide +kernel
theorem dX9_time_53 : decode cX9_time 53 = .ok (.getfield 85, 3) := by decide +kernel
theorem dX9_time_56 : decode cX9_time 56 = .ok (.iconst 1, 1) := by decide +kernel
theorem dX9_time_57 : decode cX9_time 57 = .ok (.iload_n 2, 1) := by decide +kernel
theorem dX9_time_58 : decode cX9_time 58 = .ok (.invokevirtual 123, 3) := by decide +kernel
theorem dX9_time_61 : decode cX9_time 61 = .ok (.aload_n 0, 1) := by decide +kernel
theorem dX9_time_62 : decode cX9_time 62 = .ok (.aload_n 0, 1) := by decide +kernel
theorem dX9_time_63 : decode cX9_time 63 = .ok (.getfield 85, 3) := by decide +kernel
theorem dX9_time_66 : decode cX9_time 66 = .ok (.iconst 2, 1) := by decide +kernel
theorem dX9_time_67 : decode cX9_time 67 = .ok (.iload_n 3, 1) := by decide +kernel
theorem dX9_time_68 : decode cX9_time 68 = .ok (.invokevirtual 123, 3) := by decide +kernel
theorem dX9_time_71 : decode cX9_time 71 = .ok (.aload_n 0, 1) := by decide +kernel
theorem dX9_time_72 : decode cX9_time 72 = .ok (.dup, 1) := by decide +kernel
theorem dX9_time_73 : decode cX9_time 73 = .ok (.getfield 85, 3) := by decide +kernel
theorem dX9_time_76 : decode cX9_time 76 = .ok (.iconst 1, 1) := by decide +kernel
theorem dX9_time_77 : decode cX9_time 77 = .ok (.iadd, 1) := by decide +kernel
theorem dX9_time_78 : decode cX9_time 78 = .ok (.putfield 85, 3) := by decide +kernel
theorem dX9_time_81 : decode cX9_time 81 = .ok (.aload_n 0, 1) := by decide +kernel
theorem dX9_time_82 : decode cX9_time 82 = .ok (.getfield 85, 3) := by decide +kernel
theorem dX9_time_85 : decode cX9_time 85 = .ok (.iconst 1, 1) := by decide +kernel
theorem dX9_time_86 : decode cX9_time 86 = .ok (.isub, 1) := by decide +kernel
theorem dX9_time_87 : decode cX9_time 87 = .ok (.ireturn, 1) := by decide +kernel
theorem dX9_isTime_0 : decode cX9_isTime 0 = .ok (.iload_n 1, 1) := by decide +kernel
theorem dX9_isTime_1 : decode cX9_isTime 1 = .ok (.i2l, 1) := by decide +kernel
theorem dX9_isTime_2 : decode cX9_isTime 2 = .ok (.lconst 0, 1) := by decide +kernel
theorem dX9_isTime_3 : decode cX9_isTime 3 = .ok (.aload_n 0, 1) := by decide +kernel
theorem dX9_isTime_4 : decode cX9_isTime 4 = .ok (.getfield 85, 3) := by decide +kernel
theorem dX9_isTime_7 : decode cX9_isTime 7 = .ok (.iconst 1, 1) := by decide +kernel
theorem dX9_isTime_8 : decode cX9_isTime 8 = .ok (.isub, 1) := by decide +kernel
theorem dX9_isTime_9 : decode cX9_isTime 9 = .ok (.i2l, 1) := by decide +kernel
theorem dX9_isTime_10 : decode cX9_isTime 10 = .ok (.invokestatic 97, 3) := by decide +kernel
theorem dX9_isTime_13 : decode cX9_isTime 13 = .ok (.ireturn, 1) := by decide +kernel
theorem dX9_row_0 : decode cX9_row 0 = .ok (.aload_n 0, 1) := by decide +kernel
theorem dX9_row_1 : decode cX9_row 1 = .ok (.iload_n 1, 1) := by decide +kernel
theorem dX9_row_2 : decode cX9_row 2 = .ok (.invokevirtual 126, 3) := by decide +kernel
theorem dX9_row_5 : decode cX9_row 5 = .ok (.ifCond .eq 24, 3) := by decide +kernel
theorem dX9_row_8 : decode cX9_row 8 = .ok (.iload_n 2, 1) := by decide +kernel
theorem dX9_row_9 : decode cX9_row 9 = .ok (.i2l, 1) := by decide +kernel
theorem dX9_row_10 : decode cX9_row 10 = .ok (.lconst 0, 1) := by decide +kernel
theorem dX9_row_11 : decode cX9_row 11 = .ok (.ldc2_w 130, 3) := by decide +kernel
theorem dX9_row_14 : decode cX9_row 14 = .ok (.invokestatic 97, 3) := by decide +kernel
theorem dX9_row_17 : decode cX9_row 17 = .ok (.ifCond .eq 12, 3) := by decide +kernel
theorem dX9_row_20 : decode cX9_row 20 = .ok (.aload_n 0, 1) := by decide +kernel
theorem dX9_row_21 : decode cX9_row 21 = .ok (.iload_n 1, 1) := by decide +kernel
theorem dX9_row_22 : decode cX9_row 22 = .ok (.iload_n 2, 1) := by decide +kernel
theorem dX9_row_23 : decode cX9_row 23 = .ok (.invokevirtual 132, 3) := by decide +kernel
theorem dX9_row_26 : decode cX9_row 26 = .ok (.goto 4, 3) := by decide +kernel
theorem dX9_row_29 : decode cX9_row 29 = .ok (.iconst (-1), 1) := by decide +kernel
theorem dX9_row_30 : decode cX9_row 30 = .ok (.ireturn, 1) := by decide +kernel
theorem dX9_change_0 : decode cX9_change 0 = .ok (.aload_n 0, 1) := by decide +kernel
theorem dX9_change_1 : decode cX9_change 1 = .ok (.iload_n 1, 1) := by decide +kernel
theorem dX9_change_2 : decode cX9_change 2 = .ok (.invokevirtual 126, 3) := by decide +kernel
theorem dX9_change_5 : decode cX9_change 5 = .ok (.ifCond .eq 24, 3) := by decide +kernel
theorem dX9_change_8 : decode cX9_change 8 = .ok (.iload_n 2, 1) := by decide +kernel
theorem dX9_change_9 : decode cX9_change 9 = .ok (.i2l, 1) := by decide +kernel
theorem dX9_change_10 : decode cX9_change 10 = .ok (.lconst 0, 1) := by decide +kernel
theorem dX9_change_11 : decode cX9_change 11 = .ok (.ldc2_w 130, 3) := by decide +kernel
theorem dX9_change_14 : decode cX9_change 14 = .ok (.invokestatic 97, 3) := by decide +kernel
theorem dX9_change_17 : decode cX9_change 17 = .ok (.ifCond .eq 12, 3) := by decide +kernel
theorem dX9_change_20 : decode cX9_change 20 = .ok (.aload_n 0, 1) := by decide +kernel
theorem dX9_change_21 : decode cX9_change 21 = .ok (.iload_n 3, 1) := by decide +kernel
theorem dX9_change_22 : decode cX9_change 22 = .ok (.iload_n 2, 1) := by decide +kernel
theorem dX9_change_23 : decode cX9_change 23 = .ok (.invokevirtual 119, 3) := by decide +kernel
theorem dX9_change_26 : decode cX9_change 26 = .ok (.ifCond .ne 5, 3) := by decide +kernel
theorem dX9_change_29 : decode cX9_change 29 = .ok (.iconst (-1), 1) := by decide +kernel
theorem dX9_change_30 : decode cX9_change 30 = .ok (.ireturn, 1) := by decide +kernel
theorem dX9_change_31 : decode cX9_change 31 = .ok (.aload_n 0, 1) := by decide +kernel
theorem dX9_change_32 : decode cX9_change 32 = .ok (.iload_n 1, 1) := by decide +kernel
theorem dX9_change_33 : decode cX9_change 33 = .ok (.iload_n 2, 1) := by decide +kernel
theorem dX9_change_34 : decode cX9_change 34 = .ok (.iload_n 3, 1) := by decide +kernel
theorem dX9_change_35 : decode cX9_change 35 = .ok (.invokevirtual 123, 3) := by decide +kernel
theorem dX9_change_38 : decode cX9_change 38 = .ok (.iconst 1, 1) := by decide +kernel
theorem dX9_change_39 : decode cX9_change 39 = .ok (.ireturn, 1) := by decide +kernel
theorem dX9_remove_0 : decode cX9_remove 0 = .ok (.bipush 27, 2) := by decide +kernel
theorem dX9_remove_2 : decode cX9_remove 2 = .ok (.iload_n 1, 1) := by decide +kernel
theorem dX9_remove_3 : decode cX9_remove 3 = .ok (.imul, 1) := by decide +kernel
theorem dX9_remove_4 : decode cX9_remove 4 = .ok (.istore_n 2, 1) := by decide +kernel
theorem dX9_remove_5 : decode cX9_remove 5 = .ok (.iload_n 2, 1) := by decide +kernel
theorem dX9_remove_6 : decode cX9_remove 6 = .ok (.bipush 27, 2) := by decide +kernel
theorem dX9_remove_8 : decode cX9_remove 8 = .ok (.aload_n 0, 1) := by decide +kernel
theorem dX9_remove_9 : decode cX9_remove 9 = .ok (.getfield 85, 3) := by decide +kernel
theorem dX9_remove_12 : decode cX9_remove 12 = .ok (.iconst 1, 1) := by decide +kernel
theorem dX9_remove_13 : decode cX9_remove 13 = .ok (.isub, 1) := by decide +kernel
theorem dX9_remove_14 : decode cX9_remove 14 = .ok (.imul, 1) := by decide +kernel
theorem dX9_remove_15 : decode cX9_remove 15 = .ok (.if_icmp .ge 24, 3) := by decide +kernel
theorem dX9_remove_18 : decode cX9_remove 18 = .ok (.aload_n 0, 1) := by decide +kernel
theorem dX9_remove_19 : decode cX9_remove 19 = .ok (.getfield 20, 3) := by decide +kernel
theorem dX9_remove_22 : decode cX9_remove 22 = .ok (.iload_n 2, 1) := by decide +kernel
theorem dX9_remove_23 : decode cX9_remove 23 = .ok (.aload_n 0, 1) := by decide +kernel
theorem dX9_remove_24 : decode cX9_remove 24 = .ok (.getfield 20, 3) := by decide +kernel
theorem dX9_remove_27 : decode cX9_remove 27 = .ok (.iload_n 2, 1) := by decide +kernel
theorem dX9_remove_28 : decode cX9_remove 28 = .ok (.bipush 27, 2) := by decide +kernel
theorem dX9_remove_30 : decode cX9_remove 30 = .ok (.iadd, 1) := by decide +kernel
theorem dX9_remove_31 : decode cX9_remove 31 = .ok (.iaload, 1) := by decide +kernel
theorem dX9_remove_32 : decode cX9_remove 32 = .ok (.iastore, 1) := by decide +kernel
theorem dX9_remove_33 : decode cX9_remove 33 = .ok (.iinc 2 1, 3) := by decide +kernel
theorem dX9_remove_36 : decode cX9_remove 36 = .ok (.goto (-31), 3) := by decide +kernel
theorem dX9_remove_39 : decode cX9_remove 39 = .ok (.aload_n 0, 1) := by decide +kernel
theorem dX9_remove_40 : decode cX9_remove 40 = .ok (.dup, 1) := by decide +kernel
theorem dX9_remove_41 : decode cX9_remove 41 = .ok (.getfield 85, 3) := by decide +kernel
theorem dX9_remove_44 : decode cX9_remove 44 = .ok (.iconst 1, 1) := by decide +kernel
theorem dX9_remove_45 : decode cX9_remove 45 = .ok (.isub, 1) := by decide +kernel
theorem dX9_remove_46 : decode cX9_remove 46 = .ok (.putfield 85, 3) := by decide +kernel
theorem dX9_remove_49 : decode cX9_remove 49 = .ok (.return_, 1) := by decide +kernel
theorem dX9_drop_0 : decode cX9_drop 0 = .ok (.aload_n 0, 1) := by decide +kernel
theorem dX9_drop_1 : decode cX9_drop 1 = .ok (.iload_n 1, 1) := by decide +kernel
theorem dX9_drop_2 : decode cX9_drop 2 = .ok (.invokevirtual 126, 3) := by decide +kernel
theorem dX9_drop_5 : decode cX9_drop 5 = .ok (.ifCond .ne 5, 3) := by decide +kernel
theorem dX9_drop_8 : decode cX9_drop 8 = .ok (.iconst (-1), 1) := by decide +kernel
theorem dX9_drop_9 : decode cX9_drop 9 = .ok (.ireturn, 1) := by decide +kernel
theorem dX9_drop_10 : decode cX9_drop 10 = .ok (.aload_n 0, 1) := by decide +kernel
theorem dX9_drop_11 : decode cX9_drop 11 = .ok (.iload_n 1, 1) := by decide +kernel
theorem dX9_drop_12 : decode cX9_drop 12 = .ok (.invokevirtual 136, 3) := by decide +kernel
theorem dX9_drop_15 : decode cX9_drop 15 = .ok (.aload_n 0, 1) := by decide +kernel
theorem dX9_drop_16 : decode cX9_drop 16 = .ok (.getfield 85, 3) := by decide +kernel
theorem dX9_drop_19 : decode cX9_drop 19 = .ok (.ireturn, 1) := by decide +kernel
theorem dX9_plain_0 : decode cX9_plain 0 = .ok (.aload_n 0, 1) := by decide +kernel
theorem dX9_plain_1 : decode cX9_plain 1 = .ok (.invokevirtual 108, 3) := by decide +kernel
theorem dX9_plain_4 : decode cX9_plain 4 = .ok (.bipush 40, 2) := by decide +kernel
theorem dX9_plain_6 : decode cX9_plain 6 = .ok (.if_icmp .le 6, 3) := by decide +kernel
theorem dX9_plain_9 : decode cX9_plain 9 = .ok (.bipush (-2), 2) := by decide +kernel
theorem dX9_plain_11 : decode cX9_plain 11 = .ok (.ireturn, 1) := by decide +kernel
theorem dX9_plain_12 : decode cX9_plain 12 = .ok (.aload_n 0, 1) := by decide +kernel
theorem dX9_plain_13 : decode cX9_plain 13 = .ok (.iconst 0, 1) := by decide +kernel
theorem dX9_plain_14 : decode cX9_plain 14 = .ok (.putfield 85, 3) := by decide +kernel
theorem dX9_plain_17 : decode cX9_plain 17 = .ok (.iconst 0, 1) := by decide +kernel
theorem dX9_plain_18 : decode cX9_plain 18 = .ok (.istore_n 1, 1) := by decide +kernel
theorem dX9_plain_19 : decode cX9_plain 19 = .ok (.iload_n 1, 1) := by decide +kernel
theorem dX9_plain_20 : decode cX9_plain 20 = .ok (.sipush 729, 3) := by decide +kernel
theorem dX9_plain_23 : decode cX9_plain 23 = .ok (.if_icmp .ge 125, 3) := by decide +kernel
theorem dX9_plain_26 : decode cX9_plain 26 = .ok (.aload_n 0, 1) := by decide +kernel
theorem dX9_plain_27 : decode cX9_plain 27 = .ok (.getfield 17, 3) := by decide +kernel
theorem dX9_plain_30 : decode cX9_plain 30 = .ok (.iload_n 1, 1) := by decide +kernel
theorem dX9_plain_31 : decode cX9_plain 31 = .ok (.iaload, 1) := by decide +kernel
theorem dX9_plain_32 : decode cX9_plain 32 = .ok (.ifCond .eq 110, 3) := by decide +kernel
theorem dX9_plain_35 : decode cX9_plain 35 = .ok (.iconst 0, 1) := by decide +kernel
theorem dX9_plain_36 : decode cX9_plain 36 = .ok (.istore_n 2, 1) := by decide +kernel
theorem dX9_plain_37 : decode cX9_plain 37 = .ok (.iload_n 2, 1) := by decide +kernel
theorem dX9_plain_38 : decode cX9_plain 38 = .ok (.bipush 27, 2) := by decide +kernel
theorem dX9_plain_40 : decode cX9_plain 40 = .ok (.if_icmp .ge 24, 3) := by decide +kernel
theorem dX9_plain_43 : decode cX9_plain 43 = .ok (.aload_n 0, 1) := by decide +kernel
theorem dX9_plain_44 : decode cX9_plain 44 = .ok (.getfield 20, 3) := by decide +kernel
theorem dX9_plain_47 : decode cX9_plain 47 = .ok (.bipush 27, 2) := by decide +kernel
theorem dX9_plain_49 : decode cX9_plain 49 = .ok (.aload_n 0, 1) := by decide +kernel
theorem dX9_plain_50 : decode cX9_plain 50 = .ok (.getfield 85, 3) := by decide +kernel
theorem dX9_plain_53 : decode cX9_plain 53 = .ok (.imul, 1) := by decide +kernel
theorem dX9_plain_54 : decode cX9_plain 54 = .ok (.iload_n 2, 1) := by decide +kernel
theorem dX9_plain_55 : decode cX9_plain 55 = .ok (.iadd, 1) := by decide +kernel
theorem dX9_plain_56 : decode cX9_plain 56 = .ok (.iconst 0, 1) := by decide +kernel
theorem dX9_plain_57 : decode cX9_plain 57 = .ok (.iastore, 1) := by decide +kernel
theorem dX9_plain_58 : decode cX9_plain 58 = .ok (.iinc 2 1, 3) := by decide +kernel
theorem dX9_plain_61 : decode cX9_plain 61 = .ok (.goto (-24), 3) := by decide +kernel
theorem dX9_plain_64 : decode cX9_plain 64 = .ok (.aload_n 0, 1) := by decide +kernel
theorem dX9_plain_65 : decode cX9_plain 65 = .ok (.getfield 20, 3) := by decide +kernel
theorem dX9_plain_68 : decode cX9_plain 68 = .ok (.bipush 27, 2) := by decide +kernel
theorem dX9_plain_70 : decode cX9_plain 70 = .ok (.aload_n 0, 1) := by decide +kernel
theorem dX9_plain_71 : decode cX9_plain 71 = .ok (.getfield 85, 3) := by decide +kernel
theorem dX9_plain_74 : decode cX9_plain 74 = .ok (.imul, 1) := by decide +kernel
theorem dX9_plain_75 : decode cX9_plain 75 = .ok (.iload_n 1, 1) := by decide +kernel
theorem dX9_plain_76 : decode cX9_plain 76 = .ok (.bipush 81, 2) := by decide +kernel
theorem dX9_plain_78 : decode cX9_plain 78 = .ok (.idiv, 1) := by decide +kernel
theorem dX9_plain_79 : decode cX9_plain 79 = .ok (.iadd, 1) := by decide +kernel
theorem dX9_plain_80 : decode cX9_plain 80 = .ok (.iconst 1, 1) := by decide +kernel
theorem dX9_plain_81 : decode cX9_plain 81 = .ok (.iastore, 1) := by decide +kernel
theorem dX9_plain_82 : decode cX9_plain 82 = .ok (.aload_n 0, 1) := by decide +kernel
theorem dX9_plain_83 : decode cX9_plain 83 = .ok (.getfield 20, 3) := by decide +kernel
theorem dX9_plain_86 : decode cX9_plain 86 = .ok (.bipush 27, 2) := by decide +kernel
theorem dX9_plain_88 : decode cX9_plain 88 = .ok (.aload_n 0, 1) := by decide +kernel
theorem dX9_plain_89 : decode cX9_plain 89 = .ok (.getfield 85, 3) := by decide +kernel
theorem dX9_plain_92 : decode cX9_plain 92 = .ok (.imul, 1) := by decide +kernel
theorem dX9_plain_93 : decode cX9_plain 93 = .ok (.bipush 9, 2) := by decide +kernel
theorem dX9_plain_95 : decode cX9_plain 95 = .ok (.iadd, 1) := by decide +kernel
theorem dX9_plain_96 : decode cX9_plain 96 = .ok (.iload_n 1, 1) := by decide +kernel
theorem dX9_plain_97 : decode cX9_plain 97 = .ok (.bipush 9, 2) := by decide +kernel
theorem dX9_plain_99 : decode cX9_plain 99 = .ok (.idiv, 1) := by decide +kernel
theorem dX9_plain_100 : decode cX9_plain 100 = .ok (.bipush 9, 2) := by decide +kernel
theorem dX9_plain_102 : decode cX9_plain 102 = .ok (.irem, 1) := by decide +kernel
theorem dX9_plain_103 : decode cX9_plain 103 = .ok (.iadd, 1) := by decide +kernel
theorem dX9_plain_104 : decode cX9_plain 104 = .ok (.iconst 1, 1) := by decide +kernel
theorem dX9_plain_105 : decode cX9_plain 105 = .ok (.iastore, 1) := by decide +kernel
theorem dX9_plain_106 : decode cX9_plain 106 = .ok (.aload_n 0, 1) := by decide +kernel
theorem dX9_plain_107 : decode cX9_plain 107 = .ok (.getfield 20, 3) := by decide +kernel
theorem dX9_plain_110 : decode cX9_plain 110 = .ok (.bipush 27, 2) := by decide +kernel
theorem dX9_plain_112 : decode cX9_plain 112 = .ok (.aload_n 0, 1) := by decide +kernel
theorem dX9_plain_113 : decode cX9_plain 113 = .ok (.getfield 85, 3) := by decide +kernel
theorem dX9_plain_116 : decode cX9_plain 116 = .ok (.imul, 1) := by decide +kernel
theorem dX9_plain_117 : decode cX9_plain 117 = .ok (.bipush 18, 2) := by decide +kernel
theorem dX9_plain_119 : decode cX9_plain 119 = .ok (.iadd, 1) := by decide +kernel
theorem dX9_plain_120 : decode cX9_plain 120 = .ok (.iload_n 1, 1) := by decide +kernel
theorem dX9_plain_121 : decode cX9_plain 121 = .ok (.bipush 9, 2) := by decide +kernel
theorem dX9_plain_123 : decode cX9_plain 123 = .ok (.irem, 1) := by decide +kernel
theorem dX9_plain_124 : decode cX9_plain 124 = .ok (.iadd, 1) := by decide +kernel
theorem dX9_plain_125 : decode cX9_plain 125 = .ok (.aload_n 0, 1) := by decide +kernel
theorem dX9_plain_126 : decode cX9_plain 126 = .ok (.getfield 17, 3) := by decide +kernel
theorem dX9_plain_129 : decode cX9_plain 129 = .ok (.iload_n 1, 1) := by decide +kernel
theorem dX9_plain_130 : decode cX9_plain 130 = .ok (.iaload, 1) := by decide +kernel
theorem dX9_plain_131 : decode cX9_plain 131 = .ok (.iastore, 1) := by decide +kernel
theorem dX9_plain_132 : decode cX9_plain 132 = .ok (.aload_n 0, 1) := by decide +kernel
theorem dX9_plain_133 : decode cX9_plain 133 = .ok (.dup, 1) := by decide +kernel
theorem dX9_plain_134 : decode cX9_plain 134 = .ok (.getfield 85, 3) := by decide +kernel
theorem dX9_plain_137 : decode cX9_plain 137 = .ok (.iconst 1, 1) := by decide +kernel
theorem dX9_plain_138 : decode cX9_plain 138 = .ok (.iadd, 1) := by decide +kernel
theorem dX9_plain_139 : decode cX9_plain 139 = .ok (.putfield 85, 3) := by decide +kernel
theorem dX9_plain_142 : decode cX9_plain 142 = .ok (.iinc 1 1, 3) := by decide +kernel
theorem dX9_plain_145 : decode cX9_plain 145 = .ok (.goto (-126), 3) := by decide +kernel
theorem dX9_plain_148 : decode cX9_plain 148 = .ok (.aload_n 0, 1) := by decide +kernel
theorem dX9_plain_149 : decode cX9_plain 149 = .ok (.getfield 85, 3) := by decide +kernel
theorem dX9_plain_152 : decode cX9_plain 152 = .ok (.ireturn, 1) := by decide +kernel
theorem dX9_added_0 : decode cX9_added 0 = .ok (.iconst 0, 1) := by decide +kernel
theorem dX9_added_1 : decode cX9_added 1 = .ok (.istore 4, 2) := by decide +kernel
theorem dX9_added_3 : decode cX9_added 3 = .ok (.iconst 0, 1) := by decide +kernel
theorem dX9_added_4 : decode cX9_added 4 = .ok (.istore 5, 2) := by decide +kernel
theorem dX9_added_6 : decode cX9_added 6 = .ok (.iload 5, 2) := by decide +kernel
theorem dX9_added_8 : decode cX9_added 8 = .ok (.aload_n 0, 1) := by decide +kernel
theorem dX9_added_9 : decode cX9_added 9 = .ok (.getfield 85, 3) := by decide +kernel
theorem dX9_added_12 : decode cX9_added 12 = .ok (.if_icmp .ge 58, 3) := by decide +kernel
theorem dX9_added_15 : decode cX9_added 15 = .ok (.iload 4, 2) := by decide +kernel
theorem dX9_added_17 : decode cX9_added 17 = .ok (.aload_n 0, 1) := by decide +kernel
theorem dX9_added_18 : decode cX9_added 18 = .ok (.getfield 20, 3) := by decide +kernel
theorem dX9_added_21 : decode cX9_added 21 = .ok (.bipush 27, 2) := by decide +kernel
theorem dX9_added_23 : decode cX9_added 23 = .ok (.iload 5, 2) := by decide +kernel
theorem dX9_added_25 : decode cX9_added 25 = .ok (.imul, 1) := by decide +kernel
theorem dX9_added_26 : decode cX9_added 26 = .ok (.iload_n 1, 1) := by decide +kernel
theorem dX9_added_27 : decode cX9_added 27 = .ok (.iadd, 1) := by decide +kernel
theorem dX9_added_28 : decode cX9_added 28 = .ok (.iaload, 1) := by decide +kernel
theorem dX9_added_29 : decode cX9_added 29 = .ok (.aload_n 0, 1) := by decide +kernel
theorem dX9_added_30 : decode cX9_added 30 = .ok (.getfield 20, 3) := by decide +kernel
theorem dX9_added_33 : decode cX9_added 33 = .ok (.bipush 27, 2) := by decide +kernel
theorem dX9_added_35 : decode cX9_added 35 = .ok (.iload 5, 2) := by decide +kernel
theorem dX9_added_37 : decode cX9_added 37 = .ok (.imul, 1) := by decide +kernel
theorem dX9_added_38 : decode cX9_added 38 = .ok (.bipush 9, 2) := by decide +kernel
theorem dX9_added_40 : decode cX9_added 40 = .ok (.iadd, 1) := by decide +kernel
theorem dX9_added_41 : decode cX9_added 41 = .ok (.iload_n 2, 1) := by decide +kernel
theorem dX9_added_42 : decode cX9_added 42 = .ok (.iadd, 1) := by decide +kernel
theorem dX9_added_43 : decode cX9_added 43 = .ok (.iaload, 1) := by decide +kernel
theorem dX9_added_44 : decode cX9_added 44 = .ok (.imul, 1) := by decide +kernel
theorem dX9_added_45 : decode cX9_added 45 = .ok (.aload_n 0, 1) := by decide +kernel
theorem dX9_added_46 : decode cX9_added 46 = .ok (.getfield 20, 3) := by decide +kernel
theorem dX9_added_49 : decode cX9_added 49 = .ok (.bipush 27, 2) := by decide +kernel
theorem dX9_added_51 : decode cX9_added 51 = .ok (.iload 5, 2) := by decide +kernel
theorem dX9_added_53 : decode cX9_added 53 = .ok (.imul, 1) := by decide +kernel
theorem dX9_added_54 : decode cX9_added 54 = .ok (.bipush 18, 2) := by decide +kernel
theorem dX9_added_56 : decode cX9_added 56 = .ok (.iadd, 1) := by decide +kernel
theorem dX9_added_57 : decode cX9_added 57 = .ok (.iload_n 3, 1) := by decide +kernel
theorem dX9_added_58 : decode cX9_added 58 = .ok (.iadd, 1) := by decide +kernel
theorem dX9_added_59 : decode cX9_added 59 = .ok (.iaload, 1) := by decide +kernel
theorem dX9_added_60 : decode cX9_added 60 = .ok (.imul, 1) := by decide +kernel
theorem dX9_added_61 : decode cX9_added 61 = .ok (.iadd, 1) := by decide +kernel
theorem dX9_added_62 : decode cX9_added 62 = .ok (.istore 4, 2) := by decide +kernel
theorem dX9_added_64 : decode cX9_added 64 = .ok (.iinc 5 1, 3) := by decide +kernel
theorem dX9_added_67 : decode cX9_added 67 = .ok (.goto (-61), 3) := by decide +kernel
theorem dX9_added_70 : decode cX9_added 70 = .ok (.iload 4, 2) := by decide +kernel
theorem dX9_added_72 : decode cX9_added 72 = .ok (.aload_n 0, 1) := by decide +kernel
theorem dX9_added_73 : decode cX9_added 73 = .ok (.getfield 7, 3) := by decide +kernel
theorem dX9_added_76 : decode cX9_added 76 = .ok (.irem, 1) := by decide +kernel
theorem dX9_added_77 : decode cX9_added 77 = .ok (.ireturn, 1) := by decide +kernel
theorem dX9_off_0 : decode cX9_off 0 = .ok (.iload_n 1, 1) := by decide +kernel
theorem dX9_off_1 : decode cX9_off 1 = .ok (.istore_n 2, 1) := by decide +kernel
theorem dX9_off_2 : decode cX9_off 2 = .ok (.iconst 0, 1) := by decide +kernel
theorem dX9_off_3 : decode cX9_off 3 = .ok (.istore_n 3, 1) := by decide +kernel
theorem dX9_off_4 : decode cX9_off 4 = .ok (.iload_n 3, 1) := by decide +kernel
theorem dX9_off_5 : decode cX9_off 5 = .ok (.aload_n 0, 1) := by decide +kernel
theorem dX9_off_6 : decode cX9_off 6 = .ok (.getfield 13, 3) := by decide +kernel
theorem dX9_off_9 : decode cX9_off 9 = .ok (.iconst 0, 1) := by decide +kernel
theorem dX9_off_10 : decode cX9_off 10 = .ok (.iaload, 1) := by decide +kernel
theorem dX9_off_11 : decode cX9_off 11 = .ok (.if_icmp .ge 100, 3) := by decide +kernel
theorem dX9_off_14 : decode cX9_off 14 = .ok (.iconst 0, 1) := by decide +kernel
theorem dX9_off_15 : decode cX9_off 15 = .ok (.istore 4, 2) := by decide +kernel
theorem dX9_off_17 : decode cX9_off 17 = .ok (.iload 4, 2) := by decide +kernel
theorem dX9_off_19 : decode cX9_off 19 = .ok (.aload_n 0, 1) := by decide +kernel
theorem dX9_off_20 : decode cX9_off 20 = .ok (.getfield 13, 3) := by decide +kernel
theorem dX9_off_23 : decode cX9_off 23 = .ok (.iconst 1, 1) := by decide +kernel
theorem dX9_off_24 : decode cX9_off 24 = .ok (.iaload, 1) := by decide +kernel
theorem dX9_off_25 : decode cX9_off 25 = .ok (.if_icmp .ge 80, 3) := by decide +kernel
theorem dX9_off_28 : decode cX9_off 28 = .ok (.iconst 0, 1) := by decide +kernel
theorem dX9_off_29 : decode cX9_off 29 = .ok (.istore 5, 2) := by decide +kernel
theorem dX9_off_31 : decode cX9_off 31 = .ok (.iload 5, 2) := by decide +kernel
theorem dX9_off_33 : decode cX9_off 33 = .ok (.aload_n 0, 1) := by decide +kernel
theorem dX9_off_34 : decode cX9_off 34 = .ok (.getfield 13, 3) := by decide +kernel
theorem dX9_off_37 : decode cX9_off 37 = .ok (.iconst 2, 1) := by decide +kernel
theorem dX9_off_38 : decode cX9_off 38 = .ok (.iaload, 1) := by decide +kernel
theorem dX9_off_39 : decode cX9_off 39 = .ok (.if_icmp .ge 60, 3) := by decide +kernel
theorem dX9_off_42 : decode cX9_off 42 = .ok (.aload_n 0, 1) := by decide +kernel
theorem dX9_off_43 : decode cX9_off 43 = .ok (.iload_n 3, 1) := by decide +kernel
theorem dX9_off_44 : decode cX9_off 44 = .ok (.iload 4, 2) := by decide +kernel
theorem dX9_off_46 : decode cX9_off 46 = .ok (.iload 5, 2) := by decide +kernel
theorem dX9_off_48 : decode cX9_off 48 = .ok (.invokevirtual 140, 3) := by decide +kernel
theorem dX9_off_51 : decode cX9_off 51 = .ok (.aload_n 0, 1) := by decide +kernel
theorem dX9_off_52 : decode cX9_off 52 = .ok (.getfield 17, 3) := by decide +kernel
theorem dX9_off_55 : decode cX9_off 55 = .ok (.bipush 81, 2) := by decide +kernel
theorem dX9_off_57 : decode cX9_off 57 = .ok (.iload_n 3, 1) := by decide +kernel
theorem dX9_off_58 : decode cX9_off 58 = .ok (.imul, 1) := by decide +kernel
theorem dX9_off_59 : decode cX9_off 59 = .ok (.bipush 9, 2) := by decide +kernel
theorem dX9_off_61 : decode cX9_off 61 = .ok (.iload 4, 2) := by decide +kernel
theorem dX9_off_63 : decode cX9_off 63 = .ok (.imul, 1) := by decide +kernel
theorem dX9_off_64 : decode cX9_off 64 = .ok (.iadd, 1) := by decide +kernel
theorem dX9_off_65 : decode cX9_off 65 = .ok (.iload 5, 2) := by decide +kernel
theorem dX9_off_67 : decode cX9_off 67 = .ok (.iadd, 1) := by decide +kernel
theorem dX9_off_68 : decode cX9_off 68 = .ok (.iaload, 1) := by decide +kernel
theorem dX9_off_69 : decode cX9_off 69 = .ok (.if_icmp .eq 24, 3) := by decide +kernel
theorem dX9_off_72 : decode cX9_off 72 = .ok (.iload_n 2, 1) := by decide +kernel
theorem dX9_off_73 : decode cX9_off 73 = .ok (.ifCond .ne 17, 3) := by decide +kernel
theorem dX9_off_76 : decode cX9_off 76 = .ok (.bipush 100, 2) := by decide +kernel
theorem dX9_off_78 : decode cX9_off 78 = .ok (.iload_n 3, 1) := by decide +kernel
theorem dX9_off_79 : decode cX9_off 79 = .ok (.imul, 1) := by decide +kernel
theorem dX9_off_80 : decode cX9_off 80 = .ok (.bipush 10, 2) := by decide +kernel
theorem dX9_off_82 : decode cX9_off 82 = .ok (.iload 4, 2) := by decide +kernel
theorem dX9_off_84 : decode cX9_off 84 = .ok (.imul, 1) := by decide +kernel
theorem dX9_off_85 : decode cX9_off 85 = .ok (.iadd, 1) := by decide +kernel
theorem dX9_off_86 : decode cX9_off 86 = .ok (.iload 5, 2) := by decide +kernel
theorem dX9_off_88 : decode cX9_off 88 = .ok (.iadd, 1) := by decide +kernel
theorem dX9_off_89 : decode cX9_off 89 = .ok (.ireturn, 1) := by decide +kernel
theorem dX9_off_90 : decode cX9_off 90 = .ok (.iinc 2 (-1), 3) := by decide +kernel
theorem dX9_off_93 : decode cX9_off 93 = .ok (.iinc 5 1, 3) := by decide +kernel
theorem dX9_off_96 : decode cX9_off 96 = .ok (.goto (-65), 3) := by decide +kernel
theorem dX9_off_99 : decode cX9_off 99 = .ok (.iinc 4 1, 3) := by decide +kernel
theorem dX9_off_102 : decode cX9_off 102 = .ok (.goto (-85), 3) := by decide +kernel
theorem dX9_off_105 : decode cX9_off 105 = .ok (.iinc 3 1, 3) := by decide +kernel
theorem dX9_off_108 : decode cX9_off 108 = .ok (.goto (-104), 3) := by decide +kernel
theorem dX9_off_111 : decode cX9_off 111 = .ok (.iconst (-1), 1) := by decide +kernel
theorem dX9_off_112 : decode cX9_off 112 = .ok (.ireturn, 1) := by decide +kernel
theorem dX9_makes_0 : decode cX9_makes 0 = .ok (.aload_n 0, 1) := by decide +kernel
theorem dX9_makes_1 : decode cX9_makes 1 = .ok (.iconst 0, 1) := by decide +kernel
theorem dX9_makes_2 : decode cX9_makes 2 = .ok (.invokevirtual 144, 3) := by decide +kernel
theorem dX9_makes_5 : decode cX9_makes 5 = .ok (.ifCond .ge 7, 3) := by decide +kernel
theorem dX9_makes_8 : decode cX9_makes 8 = .ok (.iconst 1, 1) := by decide +kernel
theorem dX9_makes_9 : decode cX9_makes 9 = .ok (.goto 4, 3) := by decide +kernel
theorem dX9_makes_12 : decode cX9_makes 12 = .ok (.iconst 0, 1) := by decide +kernel
theorem dX9_makes_13 : decode cX9_makes 13 = .ok (.ireturn, 1) := by decide +kernel
theorem dX9_isNought_0 : decode cX9_isNought 0 = .ok (.iconst 1, 1) := by decide +kernel
theorem dX9_isNought_1 : decode cX9_isNought 1 = .ok (.istore_n 3, 1) := by decide +kernel
theorem dX9_isNought_2 : decode cX9_isNought 2 = .ok (.iconst 0, 1) := by decide +kernel
theorem dX9_isNought_3 : decode cX9_isNought 3 = .ok (.istore 4, 2) := by decide +kernel
theorem dX9_isNought_5 : decode cX9_isNought 5 = .ok (.iload 4, 2) := by decide +kernel
theorem dX9_isNought_7 : decode cX9_isNought 7 = .ok (.bipush 9, 2) := by decide +kernel
theorem dX9_isNought_9 : decode cX9_isNought 9 = .ok (.if_icmp .ge 39, 3) := by decide +kernel
theorem dX9_isNought_12 : decode cX9_isNought 12 = .ok (.iload_n 3, 1) := by decide +kernel
theorem dX9_isNought_13 : decode cX9_isNought 13 = .ok (.ifCond .eq 27, 3) := by decide +kernel
theorem dX9_isNought_16 : decode cX9_isNought 16 = .ok (.aload_n 0, 1) := by decide +kernel
theorem dX9_isNought_17 : decode cX9_isNought 17 = .ok (.getfield 20, 3) := by decide +kernel
theorem dX9_isNought_20 : decode cX9_isNought 20 = .ok (.bipush 27, 2) := by decide +kernel
theorem dX9_isNought_22 : decode cX9_isNought 22 = .ok (.iload_n 1, 1) := by decide +kernel
theorem dX9_isNought_23 : decode cX9_isNought 23 = .ok (.imul, 1) := by decide +kernel
theorem dX9_isNought_24 : decode cX9_isNought 24 = .ok (.bipush 9, 2) := by decide +kernel
theorem dX9_isNought_26 : decode cX9_isNought 26 = .ok (.iload_n 2, 1) := by decide +kernel
theorem dX9_isNought_27 : decode cX9_isNought 27 = .ok (.imul, 1) := by decide +kernel
theorem dX9_isNought_28 : decode cX9_isNought 28 = .ok (.iadd, 1) := by decide +kernel
theorem dX9_isNought_29 : decode cX9_isNought 29 = .ok (.iload 4, 2) := by decide +kernel
theorem dX9_isNought_31 : decode cX9_isNought 31 = .ok (.iadd, 1) := by decide +kernel
theorem dX9_isNought_32 : decode cX9_isNought 32 = .ok (.iaload, 1) := by decide +kernel
theorem dX9_isNought_33 : decode cX9_isNought 33 = .ok (.ifCond .ne 7, 3) := by decide +kernel
theorem dX9_isNought_36 : decode cX9_isNought 36 = .ok (.iconst 1, 1) := by decide +kernel
theorem dX9_isNought_37 : decode cX9_isNought 37 = .ok (.goto 4, 3) := by decide +kernel
theorem dX9_isNought_40 : decode cX9_isNought 40 = .ok (.iconst 0, 1) := by decide +kernel
theorem dX9_isNought_41 : decode cX9_isNought 41 = .ok (.istore_n 3, 1) := by decide +kernel
theorem dX9_isNought_42 : decode cX9_isNought 42 = .ok (.iinc 4 1, 3) := by decide +kernel
theorem dX9_isNought_45 : decode cX9_isNought 45 = .ok (.goto (-40), 3) := by decide +kernel
theorem dX9_isNought_48 : decode cX9_isNought 48 = .ok (.iload_n 3, 1) := by decide +kernel
theorem dX9_isNought_49 : decode cX9_isNought 49 = .ok (.ireturn, 1) := by decide +kernel
theorem dX9_factor_0 : decode cX9_factor 0 = .ok (.bipush 27, 2) := by decide +kernel
theorem dX9_factor_2 : decode cX9_factor 2 = .ok (.iload_n 1, 1) := by decide +kernel
theorem dX9_factor_3 : decode cX9_factor 3 = .ok (.imul, 1) := by decide +kernel
theorem dX9_factor_4 : decode cX9_factor 4 = .ok (.bipush 9, 2) := by decide +kernel
theorem dX9_factor_6 : decode cX9_factor 6 = .ok (.iload_n 3, 1) := by decide +kernel
theorem dX9_factor_7 : decode cX9_factor 7 = .ok (.imul, 1) := by decide +kernel
theorem dX9_factor_8 : decode cX9_factor 8 = .ok (.iadd, 1) := by decide +kernel
theorem dX9_factor_9 : decode cX9_factor 9 = .ok (.istore 4, 2) := by decide +kernel
theorem dX9_factor_11 : decode cX9_factor 11 = .ok (.bipush 27, 2) := by decide +kernel
theorem dX9_factor_13 : decode cX9_factor 13 = .ok (.iload_n 2, 1) := by decide +kernel
theorem dX9_factor_14 : decode cX9_factor 14 = .ok (.imul, 1) := by decide +kernel
theorem dX9_factor_15 : decode cX9_factor 15 = .ok (.bipush 9, 2) := by decide +kernel
theorem dX9_factor_17 : decode cX9_factor 17 = .ok (.iload_n 3, 1) := by decide +kernel
theorem dX9_factor_18 : decode cX9_factor 18 = .ok (.imul, 1) := by decide +kernel
theorem dX9_factor_19 : decode cX9_factor 19 = .ok (.iadd, 1) := by decide +kernel
theorem dX9_factor_20 : decode cX9_factor 20 = .ok (.istore 5, 2) := by decide +kernel
theorem dX9_factor_22 : decode cX9_factor 22 = .ok (.iconst 0, 1) := by decide +kernel
theorem dX9_factor_23 : decode cX9_factor 23 = .ok (.istore 6, 2) := by decide +kernel
theorem dX9_factor_25 : decode cX9_factor 25 = .ok (.iload 6, 2) := by decide +kernel
theorem dX9_factor_27 : decode cX9_factor 27 = .ok (.bipush 9, 2) := by decide +kernel
theorem dX9_factor_29 : decode cX9_factor 29 = .ok (.if_icmp .ge 22, 3) := by decide +kernel
theorem dX9_factor_32 : decode cX9_factor 32 = .ok (.aload_n 0, 1) := by decide +kernel
theorem dX9_factor_33 : decode cX9_factor 33 = .ok (.getfield 20, 3) := by decide +kernel
theorem dX9_factor_36 : decode cX9_factor 36 = .ok (.iload 4, 2) := by decide +kernel
theorem dX9_factor_38 : decode cX9_factor 38 = .ok (.iload 6, 2) := by decide +kernel
theorem dX9_factor_40 : decode cX9_factor 40 = .ok (.iadd, 1) := by decide +kernel
theorem dX9_factor_41 : decode cX9_factor 41 = .ok (.iaload, 1) := by decide +kernel
theorem dX9_factor_42 : decode cX9_factor 42 = .ok (.ifCond .ne 9, 3) := by decide +kernel
theorem dX9_factor_45 : decode cX9_factor 45 = .ok (.iinc 6 1, 3) := by decide +kernel
theorem dX9_factor_48 : decode cX9_factor 48 = .ok (.goto (-23), 3) := by decide +kernel
theorem dX9_factor_51 : decode cX9_factor 51 = .ok (.iload 6, 2) := by decide +kernel
theorem dX9_factor_53 : decode cX9_factor 53 = .ok (.bipush 9, 2) := by decide +kernel
theorem dX9_factor_55 : decode cX9_factor 55 = .ok (.if_icmp .ne 7, 3) := by decide +kernel
theorem dX9_factor_58 : decode cX9_factor 58 = .ok (.iconst 0, 1) := by decide +kernel
theorem dX9_factor_59 : decode cX9_factor 59 = .ok (.goto 33, 3) := by decide +kernel
theorem dX9_factor_62 : decode cX9_factor 62 = .ok (.aload_n 0, 1) := by decide +kernel
theorem dX9_factor_63 : decode cX9_factor 63 = .ok (.getfield 20, 3) := by decide +kernel
theorem dX9_factor_66 : decode cX9_factor 66 = .ok (.iload 5, 2) := by decide +kernel
theorem dX9_factor_68 : decode cX9_factor 68 = .ok (.iload 6, 2) := by decide +kernel
theorem dX9_factor_70 : decode cX9_factor 70 = .ok (.iadd, 1) := by decide +kernel
theorem dX9_factor_71 : decode cX9_factor 71 = .ok (.iaload, 1) := by decide +kernel
theorem dX9_factor_72 : decode cX9_factor 72 = .ok (.aload_n 0, 1) := by decide +kernel
theorem dX9_factor_73 : decode cX9_factor 73 = .ok (.aload_n 0, 1) := by decide +kernel
theorem dX9_factor_74 : decode cX9_factor 74 = .ok (.getfield 20, 3) := by decide +kernel
theorem dX9_factor_77 : decode cX9_factor 77 = .ok (.iload 4, 2) := by decide +kernel
theorem dX9_factor_79 : decode cX9_factor 79 = .ok (.iload 6, 2) := by decide +kernel
theorem dX9_factor_81 : decode cX9_factor 81 = .ok (.iadd, 1) := by decide +kernel
theorem dX9_factor_82 : decode cX9_factor 82 = .ok (.iaload, 1) := by decide +kernel
theorem dX9_factor_83 : decode cX9_factor 83 = .ok (.invokevirtual 147, 3) := by decide +kernel
theorem dX9_factor_86 : decode cX9_factor 86 = .ok (.imul, 1) := by decide +kernel
theorem dX9_factor_87 : decode cX9_factor 87 = .ok (.aload_n 0, 1) := by decide +kernel
theorem dX9_factor_88 : decode cX9_factor 88 = .ok (.getfield 7, 3) := by decide +kernel
theorem dX9_factor_91 : decode cX9_factor 91 = .ok (.irem, 1) := by decide +kernel
theorem dX9_factor_92 : decode cX9_factor 92 = .ok (.istore 7, 2) := by decide +kernel
theorem dX9_factor_94 : decode cX9_factor 94 = .ok (.iload 7, 2) := by decide +kernel
theorem dX9_factor_96 : decode cX9_factor 96 = .ok (.ifCond .le 7, 3) := by decide +kernel
theorem dX9_factor_99 : decode cX9_factor 99 = .ok (.iconst 1, 1) := by decide +kernel
theorem dX9_factor_100 : decode cX9_factor 100 = .ok (.goto 4, 3) := by decide +kernel
theorem dX9_factor_103 : decode cX9_factor 103 = .ok (.iconst 0, 1) := by decide +kernel
theorem dX9_factor_104 : decode cX9_factor 104 = .ok (.istore 8, 2) := by decide +kernel
theorem dX9_factor_106 : decode cX9_factor 106 = .ok (.iconst 0, 1) := by decide +kernel
theorem dX9_factor_107 : decode cX9_factor 107 = .ok (.istore 9, 2) := by decide +kernel
theorem dX9_factor_109 : decode cX9_factor 109 = .ok (.iload 9, 2) := by decide +kernel
theorem dX9_factor_111 : decode cX9_factor 111 = .ok (.bipush 9, 2) := by decide +kernel
end
section
theorem dX9_factor_113 : decode cX9_factor 113 = .ok (.if_icmp .ge 52, 3) := by decide +kernel
theorem dX9_factor_116 : decode cX9_factor 116 = .ok (.iload 8, 2) := by decide +kernel
theorem dX9_factor_118 : decode cX9_factor 118 = .ok (.ifCond .eq 47, 3) := by decide +kernel
theorem dX9_factor_121 : decode cX9_factor 121 = .ok (.aload_n 0, 1) := by decide +kernel
theorem dX9_factor_122 : decode cX9_factor 122 = .ok (.getfield 20, 3) := by decide +kernel
theorem dX9_factor_125 : decode cX9_factor 125 = .ok (.iload 4, 2) := by decide +kernel
theorem dX9_factor_127 : decode cX9_factor 127 = .ok (.iload 9, 2) := by decide +kernel
theorem dX9_factor_129 : decode cX9_factor 129 = .ok (.iadd, 1) := by decide +kernel
theorem dX9_factor_130 : decode cX9_factor 130 = .ok (.iaload, 1) := by decide +kernel
theorem dX9_factor_131 : decode cX9_factor 131 = .ok (.iload 7, 2) := by decide +kernel
theorem dX9_factor_133 : decode cX9_factor 133 = .ok (.imul, 1) := by decide +kernel
theorem dX9_factor_134 : decode cX9_factor 134 = .ok (.aload_n 0, 1) := by decide +kernel
theorem dX9_factor_135 : decode cX9_factor 135 = .ok (.getfield 7, 3) := by decide +kernel
theorem dX9_factor_138 : decode cX9_factor 138 = .ok (.irem, 1) := by decide +kernel
theorem dX9_factor_139 : decode cX9_factor 139 = .ok (.aload_n 0, 1) := by decide +kernel
theorem dX9_factor_140 : decode cX9_factor 140 = .ok (.getfield 20, 3) := by decide +kernel
theorem dX9_factor_143 : decode cX9_factor 143 = .ok (.iload 5, 2) := by decide +kernel
theorem dX9_factor_145 : decode cX9_factor 145 = .ok (.iload 9, 2) := by decide +kernel
theorem dX9_factor_147 : decode cX9_factor 147 = .ok (.iadd, 1) := by decide +kernel
theorem dX9_factor_148 : decode cX9_factor 148 = .ok (.iaload, 1) := by decide +kernel
theorem dX9_factor_149 : decode cX9_factor 149 = .ok (.if_icmp .ne 7, 3) := by decide +kernel
theorem dX9_factor_152 : decode cX9_factor 152 = .ok (.iconst 1, 1) := by decide +kernel
theorem dX9_factor_153 : decode cX9_factor 153 = .ok (.goto 4, 3) := by decide +kernel
theorem dX9_factor_156 : decode cX9_factor 156 = .ok (.iconst 0, 1) := by decide +kernel
theorem dX9_factor_157 : decode cX9_factor 157 = .ok (.istore 8, 2) := by decide +kernel
theorem dX9_factor_159 : decode cX9_factor 159 = .ok (.iinc 9 1, 3) := by decide +kernel
theorem dX9_factor_162 : decode cX9_factor 162 = .ok (.goto (-53), 3) := by decide +kernel
theorem dX9_factor_165 : decode cX9_factor 165 = .ok (.iload 8, 2) := by decide +kernel
theorem dX9_factor_167 : decode cX9_factor 167 = .ok (.ifCond .eq 8, 3) := by decide +kernel
theorem dX9_factor_170 : decode cX9_factor 170 = .ok (.iload 7, 2) := by decide +kernel
theorem dX9_factor_172 : decode cX9_factor 172 = .ok (.goto 4, 3) := by decide +kernel
theorem dX9_factor_175 : decode cX9_factor 175 = .ok (.iconst 0, 1) := by decide +kernel
theorem dX9_factor_176 : decode cX9_factor 176 = .ok (.ireturn, 1) := by decide +kernel
theorem dX9_dropNought_0 : decode cX9_dropNought 0 = .ok (.iconst 0, 1) := by decide +kernel
theorem dX9_dropNought_1 : decode cX9_dropNought 1 = .ok (.istore_n 1, 1) := by decide +kernel
theorem dX9_dropNought_2 : decode cX9_dropNought 2 = .ok (.iload_n 1, 1) := by decide +kernel
theorem dX9_dropNought_3 : decode cX9_dropNought 3 = .ok (.aload_n 0, 1) := by decide +kernel
theorem dX9_dropNought_4 : decode cX9_dropNought 4 = .ok (.getfield 85, 3) := by decide +kernel
theorem dX9_dropNought_7 : decode cX9_dropNought 7 = .ok (.if_icmp .ge 43, 3) := by decide +kernel
theorem dX9_dropNought_10 : decode cX9_dropNought 10 = .ok (.aload_n 0, 1) := by decide +kernel
theorem dX9_dropNought_11 : decode cX9_dropNought 11 = .ok (.iload_n 1, 1) := by decide +kernel
theorem dX9_dropNought_12 : decode cX9_dropNought 12 = .ok (.iconst 0, 1) := by decide +kernel
theorem dX9_dropNought_13 : decode cX9_dropNought 13 = .ok (.invokevirtual 150, 3) := by decide +kernel
theorem dX9_dropNought_16 : decode cX9_dropNought 16 = .ok (.ifCond .ne 21, 3) := by decide +kernel
theorem dX9_dropNought_19 : decode cX9_dropNought 19 = .ok (.aload_n 0, 1) := by decide +kernel
theorem dX9_dropNought_20 : decode cX9_dropNought 20 = .ok (.iload_n 1, 1) := by decide +kernel
theorem dX9_dropNought_21 : decode cX9_dropNought 21 = .ok (.iconst 1, 1) := by decide +kernel
theorem dX9_dropNought_22 : decode cX9_dropNought 22 = .ok (.invokevirtual 150, 3) := by decide +kernel
theorem dX9_dropNought_25 : decode cX9_dropNought 25 = .ok (.ifCond .ne 12, 3) := by decide +kernel
theorem dX9_dropNought_28 : decode cX9_dropNought 28 = .ok (.aload_n 0, 1) := by decide +kernel
theorem dX9_dropNought_29 : decode cX9_dropNought 29 = .ok (.iload_n 1, 1) := by decide +kernel
theorem dX9_dropNought_30 : decode cX9_dropNought 30 = .ok (.iconst 2, 1) := by decide +kernel
theorem dX9_dropNought_31 : decode cX9_dropNought 31 = .ok (.invokevirtual 150, 3) := by decide +kernel
theorem dX9_dropNought_34 : decode cX9_dropNought 34 = .ok (.ifCond .eq 10, 3) := by decide +kernel
theorem dX9_dropNought_37 : decode cX9_dropNought 37 = .ok (.aload_n 0, 1) := by decide +kernel
theorem dX9_dropNought_38 : decode cX9_dropNought 38 = .ok (.iload_n 1, 1) := by decide +kernel
theorem dX9_dropNought_39 : decode cX9_dropNought 39 = .ok (.invokevirtual 136, 3) := by decide +kernel
theorem dX9_dropNought_42 : decode cX9_dropNought 42 = .ok (.iconst 1, 1) := by decide +kernel
theorem dX9_dropNought_43 : decode cX9_dropNought 43 = .ok (.ireturn, 1) := by decide +kernel
theorem dX9_dropNought_44 : decode cX9_dropNought 44 = .ok (.iinc 1 1, 3) := by decide +kernel
theorem dX9_dropNought_47 : decode cX9_dropNought 47 = .ok (.goto (-45), 3) := by decide +kernel
theorem dX9_dropNought_50 : decode cX9_dropNought 50 = .ok (.iconst 0, 1) := by decide +kernel
theorem dX9_dropNought_51 : decode cX9_dropNought 51 = .ok (.ireturn, 1) := by decide +kernel
theorem dX9_bringTogether_0 : decode cX9_bringTogether 0 = .ok (.aload_n 0, 1) := by decide +kernel
theorem dX9_bringTogether_1 : decode cX9_bringTogether 1 = .ok (.getfield 42, 3) := by decide +kernel
theorem dX9_bringTogether_4 : decode cX9_bringTogether 4 = .ok (.astore_n 3, 1) := by decide +kernel
theorem dX9_bringTogether_5 : decode cX9_bringTogether 5 = .ok (.iconst 0, 1) := by decide +kernel
theorem dX9_bringTogether_6 : decode cX9_bringTogether 6 = .ok (.istore 4, 2) := by decide +kernel
theorem dX9_bringTogether_8 : decode cX9_bringTogether 8 = .ok (.iload 4, 2) := by decide +kernel
theorem dX9_bringTogether_10 : decode cX9_bringTogether 10 = .ok (.iconst 3, 1) := by decide +kernel
theorem dX9_bringTogether_11 : decode cX9_bringTogether 11 = .ok (.if_icmp .ge 21, 3) := by decide +kernel
theorem dX9_bringTogether_14 : decode cX9_bringTogether 14 = .ok (.aload_n 3, 1) := by decide +kernel
theorem dX9_bringTogether_15 : decode cX9_bringTogether 15 = .ok (.iload 4, 2) := by decide +kernel
theorem dX9_bringTogether_17 : decode cX9_bringTogether 17 = .ok (.aload_n 0, 1) := by decide +kernel
theorem dX9_bringTogether_18 : decode cX9_bringTogether 18 = .ok (.iload_n 1, 1) := by decide +kernel
theorem dX9_bringTogether_19 : decode cX9_bringTogether 19 = .ok (.iload_n 2, 1) := by decide +kernel
theorem dX9_bringTogether_20 : decode cX9_bringTogether 20 = .ok (.iload 4, 2) := by decide +kernel
theorem dX9_bringTogether_22 : decode cX9_bringTogether 22 = .ok (.invokevirtual 153, 3) := by decide +kernel
theorem dX9_bringTogether_25 : decode cX9_bringTogether 25 = .ok (.iastore, 1) := by decide +kernel
theorem dX9_bringTogether_26 : decode cX9_bringTogether 26 = .ok (.iinc 4 1, 3) := by decide +kernel
theorem dX9_bringTogether_29 : decode cX9_bringTogether 29 = .ok (.goto (-21), 3) := by decide +kernel
theorem dX9_bringTogether_32 : decode cX9_bringTogether 32 = .ok (.aload_n 3, 1) := by decide +kernel
theorem dX9_bringTogether_33 : decode cX9_bringTogether 33 = .ok (.iconst 0, 1) := by decide +kernel
theorem dX9_bringTogether_34 : decode cX9_bringTogether 34 = .ok (.iaload, 1) := by decide +kernel
theorem dX9_bringTogether_35 : decode cX9_bringTogether 35 = .ok (.ifCond .le 13, 3) := by decide +kernel
theorem dX9_bringTogether_38 : decode cX9_bringTogether 38 = .ok (.aload_n 3, 1) := by decide +kernel
theorem dX9_bringTogether_39 : decode cX9_bringTogether 39 = .ok (.iconst 1, 1) := by decide +kernel
theorem dX9_bringTogether_40 : decode cX9_bringTogether 40 = .ok (.iaload, 1) := by decide +kernel
theorem dX9_bringTogether_41 : decode cX9_bringTogether 41 = .ok (.ifCond .le 7, 3) := by decide +kernel
theorem dX9_bringTogether_44 : decode cX9_bringTogether 44 = .ok (.iconst 2, 1) := by decide +kernel
theorem dX9_bringTogether_45 : decode cX9_bringTogether 45 = .ok (.goto 36, 3) := by decide +kernel
theorem dX9_bringTogether_48 : decode cX9_bringTogether 48 = .ok (.aload_n 3, 1) := by decide +kernel
theorem dX9_bringTogether_49 : decode cX9_bringTogether 49 = .ok (.iconst 0, 1) := by decide +kernel
theorem dX9_bringTogether_50 : decode cX9_bringTogether 50 = .ok (.iaload, 1) := by decide +kernel
theorem dX9_bringTogether_51 : decode cX9_bringTogether 51 = .ok (.ifCond .le 13, 3) := by decide +kernel
theorem dX9_bringTogether_54 : decode cX9_bringTogether 54 = .ok (.aload_n 3, 1) := by decide +kernel
theorem dX9_bringTogether_55 : decode cX9_bringTogether 55 = .ok (.iconst 2, 1) := by decide +kernel
theorem dX9_bringTogether_56 : decode cX9_bringTogether 56 = .ok (.iaload, 1) := by decide +kernel
theorem dX9_bringTogether_57 : decode cX9_bringTogether 57 = .ok (.ifCond .le 7, 3) := by decide +kernel
theorem dX9_bringTogether_60 : decode cX9_bringTogether 60 = .ok (.iconst 1, 1) := by decide +kernel
theorem dX9_bringTogether_61 : decode cX9_bringTogether 61 = .ok (.goto 20, 3) := by decide +kernel
theorem dX9_bringTogether_64 : decode cX9_bringTogether 64 = .ok (.aload_n 3, 1) := by decide +kernel
theorem dX9_bringTogether_65 : decode cX9_bringTogether 65 = .ok (.iconst 1, 1) := by decide +kernel
theorem dX9_bringTogether_66 : decode cX9_bringTogether 66 = .ok (.iaload, 1) := by decide +kernel
theorem dX9_bringTogether_67 : decode cX9_bringTogether 67 = .ok (.ifCond .le 13, 3) := by decide +kernel
theorem dX9_bringTogether_70 : decode cX9_bringTogether 70 = .ok (.aload_n 3, 1) := by decide +kernel
theorem dX9_bringTogether_71 : decode cX9_bringTogether 71 = .ok (.iconst 2, 1) := by decide +kernel
theorem dX9_bringTogether_72 : decode cX9_bringTogether 72 = .ok (.iaload, 1) := by decide +kernel
theorem dX9_bringTogether_73 : decode cX9_bringTogether 73 = .ok (.ifCond .le 7, 3) := by decide +kernel
theorem dX9_bringTogether_76 : decode cX9_bringTogether 76 = .ok (.iconst 0, 1) := by decide +kernel
theorem dX9_bringTogether_77 : decode cX9_bringTogether 77 = .ok (.goto 4, 3) := by decide +kernel
theorem dX9_bringTogether_80 : decode cX9_bringTogether 80 = .ok (.iconst (-1), 1) := by decide +kernel
theorem dX9_bringTogether_81 : decode cX9_bringTogether 81 = .ok (.istore 4, 2) := by decide +kernel
theorem dX9_bringTogether_83 : decode cX9_bringTogether 83 = .ok (.iload 4, 2) := by decide +kernel
theorem dX9_bringTogether_85 : decode cX9_bringTogether 85 = .ok (.ifCond .ge 5, 3) := by decide +kernel
theorem dX9_bringTogether_88 : decode cX9_bringTogether 88 = .ok (.iconst 0, 1) := by decide +kernel
theorem dX9_bringTogether_89 : decode cX9_bringTogether 89 = .ok (.ireturn, 1) := by decide +kernel
theorem dX9_bringTogether_90 : decode cX9_bringTogether 90 = .ok (.aload_n 3, 1) := by decide +kernel
theorem dX9_bringTogether_91 : decode cX9_bringTogether 91 = .ok (.iload 4, 2) := by decide +kernel
theorem dX9_bringTogether_93 : decode cX9_bringTogether 93 = .ok (.iconst 1, 1) := by decide +kernel
theorem dX9_bringTogether_94 : decode cX9_bringTogether 94 = .ok (.iadd, 1) := by decide +kernel
theorem dX9_bringTogether_95 : decode cX9_bringTogether 95 = .ok (.iconst 3, 1) := by decide +kernel
theorem dX9_bringTogether_96 : decode cX9_bringTogether 96 = .ok (.irem, 1) := by decide +kernel
theorem dX9_bringTogether_97 : decode cX9_bringTogether 97 = .ok (.iaload, 1) := by decide +kernel
theorem dX9_bringTogether_98 : decode cX9_bringTogether 98 = .ok (.aload_n 3, 1) := by decide +kernel
theorem dX9_bringTogether_99 : decode cX9_bringTogether 99 = .ok (.iload 4, 2) := by decide +kernel
theorem dX9_bringTogether_101 : decode cX9_bringTogether 101 = .ok (.iconst 2, 1) := by decide +kernel
theorem dX9_bringTogether_102 : decode cX9_bringTogether 102 = .ok (.iadd, 1) := by decide +kernel
theorem dX9_bringTogether_103 : decode cX9_bringTogether 103 = .ok (.iconst 3, 1) := by decide +kernel
theorem dX9_bringTogether_104 : decode cX9_bringTogether 104 = .ok (.irem, 1) := by decide +kernel
theorem dX9_bringTogether_105 : decode cX9_bringTogether 105 = .ok (.iaload, 1) := by decide +kernel
theorem dX9_bringTogether_106 : decode cX9_bringTogether 106 = .ok (.imul, 1) := by decide +kernel
theorem dX9_bringTogether_107 : decode cX9_bringTogether 107 = .ok (.aload_n 0, 1) := by decide +kernel
theorem dX9_bringTogether_108 : decode cX9_bringTogether 108 = .ok (.getfield 7, 3) := by decide +kernel
theorem dX9_bringTogether_111 : decode cX9_bringTogether 111 = .ok (.irem, 1) := by decide +kernel
theorem dX9_bringTogether_112 : decode cX9_bringTogether 112 = .ok (.istore 5, 2) := by decide +kernel
theorem dX9_bringTogether_114 : decode cX9_bringTogether 114 = .ok (.aload_n 0, 1) := by decide +kernel
theorem dX9_bringTogether_115 : decode cX9_bringTogether 115 = .ok (.iload_n 1, 1) := by decide +kernel
theorem dX9_bringTogether_116 : decode cX9_bringTogether 116 = .ok (.iload 4, 2) := by decide +kernel
theorem dX9_bringTogether_118 : decode cX9_bringTogether 118 = .ok (.iload_n 2, 1) := by decide +kernel
theorem dX9_bringTogether_119 : decode cX9_bringTogether 119 = .ok (.iload 4, 2) := by decide +kernel
theorem dX9_bringTogether_121 : decode cX9_bringTogether 121 = .ok (.iload 5, 2) := by decide +kernel
theorem dX9_bringTogether_123 : decode cX9_bringTogether 123 = .ok (.invokevirtual 156, 3) := by decide +kernel
theorem dX9_bringTogether_126 : decode cX9_bringTogether 126 = .ok (.aload_n 0, 1) := by decide +kernel
theorem dX9_bringTogether_127 : decode cX9_bringTogether 127 = .ok (.iload_n 2, 1) := by decide +kernel
theorem dX9_bringTogether_128 : decode cX9_bringTogether 128 = .ok (.invokevirtual 136, 3) := by decide +kernel
theorem dX9_bringTogether_131 : decode cX9_bringTogether 131 = .ok (.iconst 1, 1) := by decide +kernel
theorem dX9_bringTogether_132 : decode cX9_bringTogether 132 = .ok (.ireturn, 1) := by decide +kernel
theorem dX9_addRow_0 : decode cX9_addRow 0 = .ok (.iconst 0, 1) := by decide +kernel
theorem dX9_addRow_1 : decode cX9_addRow 1 = .ok (.istore 6, 2) := by decide +kernel
theorem dX9_addRow_3 : decode cX9_addRow 3 = .ok (.iload 6, 2) := by decide +kernel
theorem dX9_addRow_5 : decode cX9_addRow 5 = .ok (.bipush 9, 2) := by decide +kernel
theorem dX9_addRow_7 : decode cX9_addRow 7 = .ok (.if_icmp .ge 74, 3) := by decide +kernel
theorem dX9_addRow_10 : decode cX9_addRow 10 = .ok (.aload_n 0, 1) := by decide +kernel
theorem dX9_addRow_11 : decode cX9_addRow 11 = .ok (.getfield 20, 3) := by decide +kernel
theorem dX9_addRow_14 : decode cX9_addRow 14 = .ok (.bipush 27, 2) := by decide +kernel
theorem dX9_addRow_16 : decode cX9_addRow 16 = .ok (.iload_n 1, 1) := by decide +kernel
theorem dX9_addRow_17 : decode cX9_addRow 17 = .ok (.imul, 1) := by decide +kernel
theorem dX9_addRow_18 : decode cX9_addRow 18 = .ok (.bipush 9, 2) := by decide +kernel
theorem dX9_addRow_20 : decode cX9_addRow 20 = .ok (.iload_n 2, 1) := by decide +kernel
theorem dX9_addRow_21 : decode cX9_addRow 21 = .ok (.imul, 1) := by decide +kernel
theorem dX9_addRow_22 : decode cX9_addRow 22 = .ok (.iadd, 1) := by decide +kernel
theorem dX9_addRow_23 : decode cX9_addRow 23 = .ok (.iload 6, 2) := by decide +kernel
theorem dX9_addRow_25 : decode cX9_addRow 25 = .ok (.iadd, 1) := by decide +kernel
theorem dX9_addRow_26 : decode cX9_addRow 26 = .ok (.iaload, 1) := by decide +kernel
theorem dX9_addRow_27 : decode cX9_addRow 27 = .ok (.iload 5, 2) := by decide +kernel
theorem dX9_addRow_29 : decode cX9_addRow 29 = .ok (.aload_n 0, 1) := by decide +kernel
theorem dX9_addRow_30 : decode cX9_addRow 30 = .ok (.getfield 20, 3) := by decide +kernel
theorem dX9_addRow_33 : decode cX9_addRow 33 = .ok (.bipush 27, 2) := by decide +kernel
theorem dX9_addRow_35 : decode cX9_addRow 35 = .ok (.iload_n 3, 1) := by decide +kernel
theorem dX9_addRow_36 : decode cX9_addRow 36 = .ok (.imul, 1) := by decide +kernel
theorem dX9_addRow_37 : decode cX9_addRow 37 = .ok (.bipush 9, 2) := by decide +kernel
theorem dX9_addRow_39 : decode cX9_addRow 39 = .ok (.iload 4, 2) := by decide +kernel
theorem dX9_addRow_41 : decode cX9_addRow 41 = .ok (.imul, 1) := by decide +kernel
theorem dX9_addRow_42 : decode cX9_addRow 42 = .ok (.iadd, 1) := by decide +kernel
theorem dX9_addRow_43 : decode cX9_addRow 43 = .ok (.iload 6, 2) := by decide +kernel
theorem dX9_addRow_45 : decode cX9_addRow 45 = .ok (.iadd, 1) := by decide +kernel
theorem dX9_addRow_46 : decode cX9_addRow 46 = .ok (.iaload, 1) := by decide +kernel
theorem dX9_addRow_47 : decode cX9_addRow 47 = .ok (.imul, 1) := by decide +kernel
theorem dX9_addRow_48 : decode cX9_addRow 48 = .ok (.iadd, 1) := by decide +kernel
theorem dX9_addRow_49 : decode cX9_addRow 49 = .ok (.istore 7, 2) := by decide +kernel
theorem dX9_addRow_51 : decode cX9_addRow 51 = .ok (.aload_n 0, 1) := by decide +kernel
theorem dX9_addRow_52 : decode cX9_addRow 52 = .ok (.getfield 20, 3) := by decide +kernel
theorem dX9_addRow_55 : decode cX9_addRow 55 = .ok (.bipush 27, 2) := by decide +kernel
theorem dX9_addRow_57 : decode cX9_addRow 57 = .ok (.iload_n 1, 1) := by decide +kernel
theorem dX9_addRow_58 : decode cX9_addRow 58 = .ok (.imul, 1) := by decide +kernel
theorem dX9_addRow_59 : decode cX9_addRow 59 = .ok (.bipush 9, 2) := by decide +kernel
theorem dX9_addRow_61 : decode cX9_addRow 61 = .ok (.iload_n 2, 1) := by decide +kernel
theorem dX9_addRow_62 : decode cX9_addRow 62 = .ok (.imul, 1) := by decide +kernel
theorem dX9_addRow_63 : decode cX9_addRow 63 = .ok (.iadd, 1) := by decide +kernel
theorem dX9_addRow_64 : decode cX9_addRow 64 = .ok (.iload 6, 2) := by decide +kernel
theorem dX9_addRow_66 : decode cX9_addRow 66 = .ok (.iadd, 1) := by decide +kernel
theorem dX9_addRow_67 : decode cX9_addRow 67 = .ok (.iload 7, 2) := by decide +kernel
theorem dX9_addRow_69 : decode cX9_addRow 69 = .ok (.aload_n 0, 1) := by decide +kernel
theorem dX9_addRow_70 : decode cX9_addRow 70 = .ok (.getfield 7, 3) := by decide +kernel
theorem dX9_addRow_73 : decode cX9_addRow 73 = .ok (.irem, 1) := by decide +kernel
theorem dX9_addRow_74 : decode cX9_addRow 74 = .ok (.iastore, 1) := by decide +kernel
theorem dX9_addRow_75 : decode cX9_addRow 75 = .ok (.iinc 6 1, 3) := by decide +kernel
theorem dX9_addRow_78 : decode cX9_addRow 78 = .ok (.goto (-75), 3) := by decide +kernel
theorem dX9_addRow_81 : decode cX9_addRow 81 = .ok (.return_, 1) := by decide +kernel
theorem dX9_lessenOnce_0 : decode cX9_lessenOnce 0 = .ok (.aload_n 0, 1) := by decide +kernel
theorem dX9_lessenOnce_1 : decode cX9_lessenOnce 1 = .ok (.invokevirtual 160, 3) := by decide +kernel
theorem dX9_lessenOnce_4 : decode cX9_lessenOnce 4 = .ok (.ifCond .eq 5, 3) := by decide +kernel
theorem dX9_lessenOnce_7 : decode cX9_lessenOnce 7 = .ok (.iconst 1, 1) := by decide +kernel
theorem dX9_lessenOnce_8 : decode cX9_lessenOnce 8 = .ok (.ireturn, 1) := by decide +kernel
theorem dX9_lessenOnce_9 : decode cX9_lessenOnce 9 = .ok (.iconst 0, 1) := by decide +kernel
theorem dX9_lessenOnce_10 : decode cX9_lessenOnce 10 = .ok (.istore_n 1, 1) := by decide +kernel
theorem dX9_lessenOnce_11 : decode cX9_lessenOnce 11 = .ok (.iload_n 1, 1) := by decide +kernel
theorem dX9_lessenOnce_12 : decode cX9_lessenOnce 12 = .ok (.aload_n 0, 1) := by decide +kernel
theorem dX9_lessenOnce_13 : decode cX9_lessenOnce 13 = .ok (.getfield 85, 3) := by decide +kernel
theorem dX9_lessenOnce_16 : decode cX9_lessenOnce 16 = .ok (.if_icmp .ge 38, 3) := by decide +kernel
theorem dX9_lessenOnce_19 : decode cX9_lessenOnce 19 = .ok (.iload_n 1, 1) := by decide +kernel
theorem dX9_lessenOnce_20 : decode cX9_lessenOnce 20 = .ok (.iconst 1, 1) := by decide +kernel
theorem dX9_lessenOnce_21 : decode cX9_lessenOnce 21 = .ok (.iadd, 1) := by decide +kernel
theorem dX9_lessenOnce_22 : decode cX9_lessenOnce 22 = .ok (.istore_n 2, 1) := by decide +kernel
theorem dX9_lessenOnce_23 : decode cX9_lessenOnce 23 = .ok (.iload_n 2, 1) := by decide +kernel
theorem dX9_lessenOnce_24 : decode cX9_lessenOnce 24 = .ok (.aload_n 0, 1) := by decide +kernel
theorem dX9_lessenOnce_25 : decode cX9_lessenOnce 25 = .ok (.getfield 85, 3) := by decide +kernel
theorem dX9_lessenOnce_28 : decode cX9_lessenOnce 28 = .ok (.if_icmp .ge 20, 3) := by decide +kernel
theorem dX9_lessenOnce_31 : decode cX9_lessenOnce 31 = .ok (.aload_n 0, 1) := by decide +kernel
theorem dX9_lessenOnce_32 : decode cX9_lessenOnce 32 = .ok (.iload_n 1, 1) := by decide +kernel
theorem dX9_lessenOnce_33 : decode cX9_lessenOnce 33 = .ok (.iload_n 2, 1) := by decide +kernel
theorem dX9_lessenOnce_34 : decode cX9_lessenOnce 34 = .ok (.invokevirtual 164, 3) := by decide +kernel
theorem dX9_lessenOnce_37 : decode cX9_lessenOnce 37 = .ok (.ifCond .eq 5, 3) := by decide +kernel
theorem dX9_lessenOnce_40 : decode cX9_lessenOnce 40 = .ok (.iconst 1, 1) := by decide +kernel
theorem dX9_lessenOnce_41 : decode cX9_lessenOnce 41 = .ok (.ireturn, 1) := by decide +kernel
theorem dX9_lessenOnce_42 : decode cX9_lessenOnce 42 = .ok (.iinc 2 1, 3) := by decide +kernel
theorem dX9_lessenOnce_45 : decode cX9_lessenOnce 45 = .ok (.goto (-22), 3) := by decide +kernel
theorem dX9_lessenOnce_48 : decode cX9_lessenOnce 48 = .ok (.iinc 1 1, 3) := by decide +kernel
theorem dX9_lessenOnce_51 : decode cX9_lessenOnce 51 = .ok (.goto (-40), 3) := by decide +kernel
theorem dX9_lessenOnce_54 : decode cX9_lessenOnce 54 = .ok (.iconst 0, 1) := by decide +kernel
theorem dX9_lessenOnce_55 : decode cX9_lessenOnce 55 = .ok (.ireturn, 1) := by decide +kernel
theorem dX9_less_0 : decode cX9_less 0 = .ok (.aload_n 0, 1) := by decide +kernel
theorem dX9_less_1 : decode cX9_less 1 = .ok (.getfield 85, 3) := by decide +kernel
theorem dX9_less_4 : decode cX9_less 4 = .ok (.istore_n 1, 1) := by decide +kernel
theorem dX9_less_5 : decode cX9_less 5 = .ok (.iconst 1, 1) := by decide +kernel
theorem dX9_less_6 : decode cX9_less 6 = .ok (.istore_n 2, 1) := by decide +kernel
theorem dX9_less_7 : decode cX9_less 7 = .ok (.iload_n 2, 1) := by decide +kernel
theorem dX9_less_8 : decode cX9_less 8 = .ok (.ifCond .eq 11, 3) := by decide +kernel
theorem dX9_less_11 : decode cX9_less 11 = .ok (.aload_n 0, 1) := by decide +kernel
theorem dX9_less_12 : decode cX9_less 12 = .ok (.invokevirtual 167, 3) := by decide +kernel
theorem dX9_less_15 : decode cX9_less 15 = .ok (.istore_n 2, 1) := by decide +kernel
theorem dX9_less_16 : decode cX9_less 16 = .ok (.goto (-9), 3) := by decide +kernel
theorem dX9_less_19 : decode cX9_less 19 = .ok (.iload_n 1, 1) := by decide +kernel
theorem dX9_less_20 : decode cX9_less 20 = .ok (.aload_n 0, 1) := by decide +kernel
theorem dX9_less_21 : decode cX9_less 21 = .ok (.getfield 85, 3) := by decide +kernel
theorem dX9_less_24 : decode cX9_less 24 = .ok (.isub, 1) := by decide +kernel
theorem dX9_less_25 : decode cX9_less 25 = .ok (.ireturn, 1) := by decide +kernel
theorem dX9_moves_0 : decode cX9_moves 0 = .ok (.iconst 0, 1) := by decide +kernel
theorem dX9_moves_1 : decode cX9_moves 1 = .ok (.istore_n 1, 1) := by decide +kernel
theorem dX9_moves_2 : decode cX9_moves 2 = .ok (.iconst 0, 1) := by decide +kernel
theorem dX9_moves_3 : decode cX9_moves 3 = .ok (.istore_n 2, 1) := by decide +kernel
theorem dX9_moves_4 : decode cX9_moves 4 = .ok (.iload_n 2, 1) := by decide +kernel
theorem dX9_moves_5 : decode cX9_moves 5 = .ok (.iconst 3, 1) := by decide +kernel
theorem dX9_moves_6 : decode cX9_moves 6 = .ok (.if_icmp .ge 68, 3) := by decide +kernel
theorem dX9_moves_9 : decode cX9_moves 9 = .ok (.iconst 0, 1) := by decide +kernel
theorem dX9_moves_10 : decode cX9_moves 10 = .ok (.istore_n 3, 1) := by decide +kernel
theorem dX9_moves_11 : decode cX9_moves 11 = .ok (.iload_n 3, 1) := by decide +kernel
theorem dX9_moves_12 : decode cX9_moves 12 = .ok (.aload_n 0, 1) := by decide +kernel
theorem dX9_moves_13 : decode cX9_moves 13 = .ok (.getfield 85, 3) := by decide +kernel
theorem dX9_moves_16 : decode cX9_moves 16 = .ok (.if_icmp .ge 52, 3) := by decide +kernel
theorem dX9_moves_19 : decode cX9_moves 19 = .ok (.iconst 0, 1) := by decide +kernel
theorem dX9_moves_20 : decode cX9_moves 20 = .ok (.istore 4, 2) := by decide +kernel
theorem dX9_moves_22 : decode cX9_moves 22 = .ok (.iload 4, 2) := by decide +kernel
theorem dX9_moves_24 : decode cX9_moves 24 = .ok (.aload_n 0, 1) := by decide +kernel
theorem dX9_moves_25 : decode cX9_moves 25 = .ok (.getfield 85, 3) := by decide +kernel
theorem dX9_moves_28 : decode cX9_moves 28 = .ok (.if_icmp .ge 34, 3) := by decide +kernel
theorem dX9_moves_31 : decode cX9_moves 31 = .ok (.iload_n 1, 1) := by decide +kernel
theorem dX9_moves_32 : decode cX9_moves 32 = .ok (.iload_n 3, 1) := by decide +kernel
theorem dX9_moves_33 : decode cX9_moves 33 = .ok (.iload 4, 2) := by decide +kernel
theorem dX9_moves_35 : decode cX9_moves 35 = .ok (.if_icmp .eq 18, 3) := by decide +kernel
theorem dX9_moves_38 : decode cX9_moves 38 = .ok (.aload_n 0, 1) := by decide +kernel
theorem dX9_moves_39 : decode cX9_moves 39 = .ok (.iload_n 3, 1) := by decide +kernel
theorem dX9_moves_40 : decode cX9_moves 40 = .ok (.iload 4, 2) := by decide +kernel
theorem dX9_moves_42 : decode cX9_moves 42 = .ok (.iload_n 2, 1) := by decide +kernel
theorem dX9_moves_43 : decode cX9_moves 43 = .ok (.invokevirtual 153, 3) := by decide +kernel
theorem dX9_moves_46 : decode cX9_moves 46 = .ok (.ifCond .le 7, 3) := by decide +kernel
theorem dX9_moves_49 : decode cX9_moves 49 = .ok (.iconst 1, 1) := by decide +kernel
theorem dX9_moves_50 : decode cX9_moves 50 = .ok (.goto 4, 3) := by decide +kernel
theorem dX9_moves_53 : decode cX9_moves 53 = .ok (.iconst 0, 1) := by decide +kernel
theorem dX9_moves_54 : decode cX9_moves 54 = .ok (.iadd, 1) := by decide +kernel
theorem dX9_moves_55 : decode cX9_moves 55 = .ok (.istore_n 1, 1) := by decide +kernel
theorem dX9_moves_56 : decode cX9_moves 56 = .ok (.iinc 4 1, 3) := by decide +kernel
theorem dX9_moves_59 : decode cX9_moves 59 = .ok (.goto (-37), 3) := by decide +kernel
theorem dX9_moves_62 : decode cX9_moves 62 = .ok (.iinc 3 1, 3) := by decide +kernel
theorem dX9_moves_65 : decode cX9_moves 65 = .ok (.goto (-54), 3) := by decide +kernel
theorem dX9_moves_68 : decode cX9_moves 68 = .ok (.iinc 2 1, 3) := by decide +kernel
theorem dX9_moves_71 : decode cX9_moves 71 = .ok (.goto (-67), 3) := by decide +kernel
theorem dX9_moves_74 : decode cX9_moves 74 = .ok (.iload_n 1, 1) := by decide +kernel
theorem dX9_moves_75 : decode cX9_moves 75 = .ok (.ireturn, 1) := by decide +kernel
theorem dX9_doMove_0 : decode cX9_doMove 0 = .ok (.aload_n 0, 1) := by decide +kernel
theorem dX9_doMove_1 : decode cX9_doMove 1 = .ok (.iload_n 2, 1) := by decide +kernel
theorem dX9_doMove_2 : decode cX9_doMove 2 = .ok (.iload_n 3, 1) := by decide +kernel
theorem dX9_doMove_3 : decode cX9_doMove 3 = .ok (.iload_n 1, 1) := by decide +kernel
theorem dX9_doMove_4 : decode cX9_doMove 4 = .ok (.invokevirtual 153, 3) := by decide +kernel
theorem dX9_doMove_7 : decode cX9_doMove 7 = .ok (.istore 4, 2) := by decide +kernel
theorem dX9_doMove_9 : decode cX9_doMove 9 = .ok (.iload 4, 2) := by decide +kernel
theorem dX9_doMove_11 : decode cX9_doMove 11 = .ok (.ifCond .ne 5, 3) := by decide +kernel
theorem dX9_doMove_14 : decode cX9_doMove 14 = .ok (.iconst 0, 1) := by decide +kernel
theorem dX9_doMove_15 : decode cX9_doMove 15 = .ok (.ireturn, 1) := by decide +kernel
theorem dX9_doMove_16 : decode cX9_doMove 16 = .ok (.iload_n 1, 1) := by decide +kernel
theorem dX9_doMove_17 : decode cX9_doMove 17 = .ok (.iconst 1, 1) := by decide +kernel
theorem dX9_doMove_18 : decode cX9_doMove 18 = .ok (.iadd, 1) := by decide +kernel
theorem dX9_doMove_19 : decode cX9_doMove 19 = .ok (.iconst 3, 1) := by decide +kernel
theorem dX9_doMove_20 : decode cX9_doMove 20 = .ok (.irem, 1) := by decide +kernel
theorem dX9_doMove_21 : decode cX9_doMove 21 = .ok (.istore 5, 2) := by decide +kernel
theorem dX9_doMove_23 : decode cX9_doMove 23 = .ok (.iload_n 1, 1) := by decide +kernel
theorem dX9_doMove_24 : decode cX9_doMove 24 = .ok (.iconst 2, 1) := by decide +kernel
theorem dX9_doMove_25 : decode cX9_doMove 25 = .ok (.iadd, 1) := by decide +kernel
theorem dX9_doMove_26 : decode cX9_doMove 26 = .ok (.iconst 3, 1) := by decide +kernel
theorem dX9_doMove_27 : decode cX9_doMove 27 = .ok (.irem, 1) := by decide +kernel
theorem dX9_doMove_28 : decode cX9_doMove 28 = .ok (.istore 6, 2) := by decide +kernel
theorem dX9_doMove_30 : decode cX9_doMove 30 = .ok (.iconst 0, 1) := by decide +kernel
theorem dX9_doMove_31 : decode cX9_doMove 31 = .ok (.istore 7, 2) := by decide +kernel
theorem dX9_doMove_33 : decode cX9_doMove 33 = .ok (.iload 7, 2) := by decide +kernel
theorem dX9_doMove_35 : decode cX9_doMove 35 = .ok (.bipush 9, 2) := by decide +kernel
theorem dX9_doMove_37 : decode cX9_doMove 37 = .ok (.if_icmp .ge 87, 3) := by decide +kernel
theorem dX9_doMove_40 : decode cX9_doMove 40 = .ok (.aload_n 0, 1) := by decide +kernel
theorem dX9_doMove_41 : decode cX9_doMove 41 = .ok (.getfield 20, 3) := by decide +kernel
theorem dX9_doMove_44 : decode cX9_doMove 44 = .ok (.bipush 27, 2) := by decide +kernel
theorem dX9_doMove_46 : decode cX9_doMove 46 = .ok (.iload_n 3, 1) := by decide +kernel
theorem dX9_doMove_47 : decode cX9_doMove 47 = .ok (.imul, 1) := by decide +kernel
theorem dX9_doMove_48 : decode cX9_doMove 48 = .ok (.bipush 9, 2) := by decide +kernel
theorem dX9_doMove_50 : decode cX9_doMove 50 = .ok (.iload_n 1, 1) := by decide +kernel
theorem dX9_doMove_51 : decode cX9_doMove 51 = .ok (.imul, 1) := by decide +kernel
theorem dX9_doMove_52 : decode cX9_doMove 52 = .ok (.iadd, 1) := by decide +kernel
theorem dX9_doMove_53 : decode cX9_doMove 53 = .ok (.iload 7, 2) := by decide +kernel
theorem dX9_doMove_55 : decode cX9_doMove 55 = .ok (.iadd, 1) := by decide +kernel
theorem dX9_doMove_56 : decode cX9_doMove 56 = .ok (.aload_n 0, 1) := by decide +kernel
theorem dX9_doMove_57 : decode cX9_doMove 57 = .ok (.getfield 20, 3) := by decide +kernel
theorem dX9_doMove_60 : decode cX9_doMove 60 = .ok (.bipush 27, 2) := by decide +kernel
theorem dX9_doMove_62 : decode cX9_doMove 62 = .ok (.iload_n 2, 1) := by decide +kernel
theorem dX9_doMove_63 : decode cX9_doMove 63 = .ok (.imul, 1) := by decide +kernel
theorem dX9_doMove_64 : decode cX9_doMove 64 = .ok (.bipush 9, 2) := by decide +kernel
theorem dX9_doMove_66 : decode cX9_doMove 66 = .ok (.iload_n 1, 1) := by decide +kernel
theorem dX9_doMove_67 : decode cX9_doMove 67 = .ok (.imul, 1) := by decide +kernel
theorem dX9_doMove_68 : decode cX9_doMove 68 = .ok (.iadd, 1) := by decide +kernel
theorem dX9_doMove_69 : decode cX9_doMove 69 = .ok (.iload 7, 2) := by decide +kernel
theorem dX9_doMove_71 : decode cX9_doMove 71 = .ok (.iadd, 1) := by decide +kernel
theorem dX9_doMove_72 : decode cX9_doMove 72 = .ok (.iaload, 1) := by decide +kernel
theorem dX9_doMove_73 : decode cX9_doMove 73 = .ok (.iastore, 1) := by decide +kernel
theorem dX9_doMove_74 : decode cX9_doMove 74 = .ok (.aload_n 0, 1) := by decide +kernel
theorem dX9_doMove_75 : decode cX9_doMove 75 = .ok (.getfield 20, 3) := by decide +kernel
theorem dX9_doMove_78 : decode cX9_doMove 78 = .ok (.bipush 27, 2) := by decide +kernel
theorem dX9_doMove_80 : decode cX9_doMove 80 = .ok (.iload_n 3, 1) := by decide +kernel
theorem dX9_doMove_81 : decode cX9_doMove 81 = .ok (.imul, 1) := by decide +kernel
theorem dX9_doMove_82 : decode cX9_doMove 82 = .ok (.bipush 9, 2) := by decide +kernel
theorem dX9_doMove_84 : decode cX9_doMove 84 = .ok (.iload 5, 2) := by decide +kernel
theorem dX9_doMove_86 : decode cX9_doMove 86 = .ok (.imul, 1) := by decide +kernel
theorem dX9_doMove_87 : decode cX9_doMove 87 = .ok (.iadd, 1) := by decide +kernel
theorem dX9_doMove_88 : decode cX9_doMove 88 = .ok (.iload 7, 2) := by decide +kernel
theorem dX9_doMove_90 : decode cX9_doMove 90 = .ok (.iadd, 1) := by decide +kernel
theorem dX9_doMove_91 : decode cX9_doMove 91 = .ok (.aload_n 0, 1) := by decide +kernel
theorem dX9_doMove_92 : decode cX9_doMove 92 = .ok (.getfield 20, 3) := by decide +kernel
theorem dX9_doMove_95 : decode cX9_doMove 95 = .ok (.bipush 27, 2) := by decide +kernel
theorem dX9_doMove_97 : decode cX9_doMove 97 = .ok (.iload_n 3, 1) := by decide +kernel
theorem dX9_doMove_98 : decode cX9_doMove 98 = .ok (.imul, 1) := by decide +kernel
theorem dX9_doMove_99 : decode cX9_doMove 99 = .ok (.bipush 9, 2) := by decide +kernel
theorem dX9_doMove_101 : decode cX9_doMove 101 = .ok (.iload 5, 2) := by decide +kernel
theorem dX9_doMove_103 : decode cX9_doMove 103 = .ok (.imul, 1) := by decide +kernel
theorem dX9_doMove_104 : decode cX9_doMove 104 = .ok (.iadd, 1) := by decide +kernel
theorem dX9_doMove_105 : decode cX9_doMove 105 = .ok (.iload 7, 2) := by decide +kernel
theorem dX9_doMove_107 : decode cX9_doMove 107 = .ok (.iadd, 1) := by decide +kernel
theorem dX9_doMove_108 : decode cX9_doMove 108 = .ok (.iaload, 1) := by decide +kernel
theorem dX9_doMove_109 : decode cX9_doMove 109 = .ok (.iload 4, 2) := by decide +kernel
theorem dX9_doMove_111 : decode cX9_doMove 111 = .ok (.imul, 1) := by decide +kernel
theorem dX9_doMove_112 : decode cX9_doMove 112 = .ok (.aload_n 0, 1) := by decide +kernel
theorem dX9_doMove_113 : decode cX9_doMove 113 = .ok (.getfield 7, 3) := by decide +kernel
theorem dX9_doMove_116 : decode cX9_doMove 116 = .ok (.irem, 1) := by decide +kernel
theorem dX9_doMove_117 : decode cX9_doMove 117 = .ok (.iastore, 1) := by decide +kernel
theorem dX9_doMove_118 : decode cX9_doMove 118 = .ok (.iinc 7 1, 3) := by decide +kernel
theorem dX9_doMove_121 : decode cX9_doMove 121 = .ok (.goto (-88), 3) := by decide +kernel
theorem dX9_doMove_124 : decode cX9_doMove 124 = .ok (.aload_n 0, 1) := by decide +kernel
theorem dX9_doMove_125 : decode cX9_doMove 125 = .ok (.iload_n 2, 1) := by decide +kernel
theorem dX9_doMove_126 : decode cX9_doMove 126 = .ok (.iload 5, 2) := by decide +kernel
theorem dX9_doMove_128 : decode cX9_doMove 128 = .ok (.iload_n 3, 1) := by decide +kernel
theorem dX9_doMove_129 : decode cX9_doMove 129 = .ok (.iload 5, 2) := by decide +kernel
theorem dX9_doMove_131 : decode cX9_doMove 131 = .ok (.iconst 1, 1) := by decide +kernel
theorem dX9_doMove_132 : decode cX9_doMove 132 = .ok (.invokevirtual 156, 3) := by decide +kernel
theorem dX9_doMove_135 : decode cX9_doMove 135 = .ok (.aload_n 0, 1) := by decide +kernel
theorem dX9_doMove_136 : decode cX9_doMove 136 = .ok (.iload_n 3, 1) := by decide +kernel
theorem dX9_doMove_137 : decode cX9_doMove 137 = .ok (.iload 6, 2) := by decide +kernel
theorem dX9_doMove_139 : decode cX9_doMove 139 = .ok (.iload_n 2, 1) := by decide +kernel
theorem dX9_doMove_140 : decode cX9_doMove 140 = .ok (.iload 6, 2) := by decide +kernel
theorem dX9_doMove_142 : decode cX9_doMove 142 = .ok (.aload_n 0, 1) := by decide +kernel
theorem dX9_doMove_143 : decode cX9_doMove 143 = .ok (.getfield 7, 3) := by decide +kernel
theorem dX9_doMove_146 : decode cX9_doMove 146 = .ok (.iconst 1, 1) := by decide +kernel
theorem dX9_doMove_147 : decode cX9_doMove 147 = .ok (.isub, 1) := by decide +kernel
theorem dX9_doMove_148 : decode cX9_doMove 148 = .ok (.invokevirtual 156, 3) := by decide +kernel
theorem dX9_doMove_151 : decode cX9_doMove 151 = .ok (.iconst 1, 1) := by decide +kernel
theorem dX9_doMove_152 : decode cX9_doMove 152 = .ok (.ireturn, 1) := by decide +kernel
theorem dX9_move_0 : decode cX9_move 0 = .ok (.iload_n 1, 1) := by decide +kernel
theorem dX9_move_1 : decode cX9_move 1 = .ok (.i2l, 1) := by decide +kernel
theorem dX9_move_2 : decode cX9_move 2 = .ok (.lconst 0, 1) := by decide +kernel
theorem dX9_move_3 : decode cX9_move 3 = .ok (.ldc2_w 130, 3) := by decide +kernel
theorem dX9_move_6 : decode cX9_move 6 = .ok (.invokestatic 97, 3) := by decide +kernel
theorem dX9_move_9 : decode cX9_move 9 = .ok (.ifCond .eq 24, 3) := by decide +kernel
theorem dX9_move_12 : decode cX9_move 12 = .ok (.aload_n 0, 1) := by decide +kernel
theorem dX9_move_13 : decode cX9_move 13 = .ok (.iload_n 2, 1) := by decide +kernel
theorem dX9_move_14 : decode cX9_move 14 = .ok (.invokevirtual 126, 3) := by decide +kernel
theorem dX9_move_17 : decode cX9_move 17 = .ok (.ifCond .eq 16, 3) := by decide +kernel
theorem dX9_move_20 : decode cX9_move 20 = .ok (.aload_n 0, 1) := by decide +kernel
theorem dX9_move_21 : decode cX9_move 21 = .ok (.iload_n 3, 1) := by decide +kernel
theorem dX9_move_22 : decode cX9_move 22 = .ok (.invokevirtual 126, 3) := by decide +kernel
theorem dX9_move_25 : decode cX9_move 25 = .ok (.ifCond .eq 8, 3) := by decide +kernel
theorem dX9_move_28 : decode cX9_move 28 = .ok (.iload_n 2, 1) := by decide +kernel
theorem dX9_move_29 : decode cX9_move 29 = .ok (.iload_n 3, 1) := by decide +kernel
theorem dX9_move_30 : decode cX9_move 30 = .ok (.if_icmp .ne 5, 3) := by decide +kernel
theorem dX9_move_33 : decode cX9_move 33 = .ok (.iconst (-1), 1) := by decide +kernel
theorem dX9_move_34 : decode cX9_move 34 = .ok (.ireturn, 1) := by decide +kernel
theorem dX9_move_35 : decode cX9_move 35 = .ok (.aload_n 0, 1) := by decide +kernel
theorem dX9_move_36 : decode cX9_move 36 = .ok (.iload_n 1, 1) := by decide +kernel
theorem dX9_move_37 : decode cX9_move 37 = .ok (.iload_n 2, 1) := by decide +kernel
theorem dX9_move_38 : decode cX9_move 38 = .ok (.iload_n 3, 1) := by decide +kernel
theorem dX9_move_39 : decode cX9_move 39 = .ok (.invokevirtual 170, 3) := by decide +kernel
theorem dX9_move_42 : decode cX9_move 42 = .ok (.ifCond .eq 7, 3) := by decide +kernel
theorem dX9_move_45 : decode cX9_move 45 = .ok (.iconst 1, 1) := by decide +kernel
theorem dX9_move_46 : decode cX9_move 46 = .ok (.goto 5, 3) := by decide +kernel
theorem dX9_move_49 : decode cX9_move 49 = .ok (.bipush (-4), 2) := by decide +kernel
theorem dX9_move_51 : decode cX9_move 51 = .ok (.ireturn, 1) := by decide +kernel
theorem dX9_moveOf_0 : decode cX9_moveOf 0 = .ok (.iload_n 1, 1) := by decide +kernel
theorem dX9_moveOf_1 : decode cX9_moveOf 1 = .ok (.istore_n 2, 1) := by decide +kernel
theorem dX9_moveOf_2 : decode cX9_moveOf 2 = .ok (.iconst 0, 1) := by decide +kernel
theorem dX9_moveOf_3 : decode cX9_moveOf 3 = .ok (.istore_n 3, 1) := by decide +kernel
theorem dX9_moveOf_4 : decode cX9_moveOf 4 = .ok (.iload_n 3, 1) := by decide +kernel
theorem dX9_moveOf_5 : decode cX9_moveOf 5 = .ok (.iconst 3, 1) := by decide +kernel
theorem dX9_moveOf_6 : decode cX9_moveOf 6 = .ok (.if_icmp .ge 83, 3) := by decide +kernel
theorem dX9_moveOf_9 : decode cX9_moveOf 9 = .ok (.iconst 0, 1) := by decide +kernel
theorem dX9_moveOf_10 : decode cX9_moveOf 10 = .ok (.istore 4, 2) := by decide +kernel
theorem dX9_moveOf_12 : decode cX9_moveOf 12 = .ok (.iload 4, 2) := by decide +kernel
theorem dX9_moveOf_14 : decode cX9_moveOf 14 = .ok (.aload_n 0, 1) := by decide +kernel
theorem dX9_moveOf_15 : decode cX9_moveOf 15 = .ok (.getfield 85, 3) := by decide +kernel
theorem dX9_moveOf_18 : decode cX9_moveOf 18 = .ok (.if_icmp .ge 65, 3) := by decide +kernel
theorem dX9_moveOf_21 : decode cX9_moveOf 21 = .ok (.iconst 0, 1) := by decide +kernel
theorem dX9_moveOf_22 : decode cX9_moveOf 22 = .ok (.istore 5, 2) := by decide +kernel
theorem dX9_moveOf_24 : decode cX9_moveOf 24 = .ok (.iload 5, 2) := by decide +kernel
theorem dX9_moveOf_26 : decode cX9_moveOf 26 = .ok (.aload_n 0, 1) := by decide +kernel
theorem dX9_moveOf_27 : decode cX9_moveOf 27 = .ok (.getfield 85, 3) := by decide +kernel
theorem dX9_moveOf_30 : decode cX9_moveOf 30 = .ok (.if_icmp .ge 47, 3) := by decide +kernel
theorem dX9_moveOf_33 : decode cX9_moveOf 33 = .ok (.iload 4, 2) := by decide +kernel
theorem dX9_moveOf_35 : decode cX9_moveOf 35 = .ok (.iload 5, 2) := by decide +kernel
theorem dX9_moveOf_37 : decode cX9_moveOf 37 = .ok (.if_icmp .eq 34, 3) := by decide +kernel
theorem dX9_moveOf_40 : decode cX9_moveOf 40 = .ok (.aload_n 0, 1) := by decide +kernel
theorem dX9_moveOf_41 : decode cX9_moveOf 41 = .ok (.iload 4, 2) := by decide +kernel
theorem dX9_moveOf_43 : decode cX9_moveOf 43 = .ok (.iload 5, 2) := by decide +kernel
theorem dX9_moveOf_45 : decode cX9_moveOf 45 = .ok (.iload_n 3, 1) := by decide +kernel
theorem dX9_moveOf_46 : decode cX9_moveOf 46 = .ok (.invokevirtual 153, 3) := by decide +kernel
theorem dX9_moveOf_49 : decode cX9_moveOf 49 = .ok (.ifCond .le 22, 3) := by decide +kernel
theorem dX9_moveOf_52 : decode cX9_moveOf 52 = .ok (.iload_n 2, 1) := by decide +kernel
theorem dX9_moveOf_53 : decode cX9_moveOf 53 = .ok (.ifCond .ne 15, 3) := by decide +kernel
theorem dX9_moveOf_56 : decode cX9_moveOf 56 = .ok (.aload_n 0, 1) := by decide +kernel
theorem dX9_moveOf_57 : decode cX9_moveOf 57 = .ok (.iload_n 3, 1) := by decide +kernel
theorem dX9_moveOf_58 : decode cX9_moveOf 58 = .ok (.iload 4, 2) := by decide +kernel
theorem dX9_moveOf_60 : decode cX9_moveOf 60 = .ok (.iload 5, 2) := by decide +kernel
theorem dX9_moveOf_62 : decode cX9_moveOf 62 = .ok (.invokevirtual 170, 3) := by decide +kernel
theorem dX9_moveOf_65 : decode cX9_moveOf 65 = .ok (.istore 6, 2) := by decide +kernel
theorem dX9_moveOf_67 : decode cX9_moveOf 67 = .ok (.return_, 1) := by decide +kernel
theorem dX9_moveOf_68 : decode cX9_moveOf 68 = .ok (.iinc 2 (-1), 3) := by decide +kernel
theorem dX9_moveOf_71 : decode cX9_moveOf 71 = .ok (.iinc 5 1, 3) := by decide +kernel
theorem dX9_moveOf_74 : decode cX9_moveOf 74 = .ok (.goto (-50), 3) := by decide +kernel
theorem dX9_moveOf_77 : decode cX9_moveOf 77 = .ok (.iinc 4 1, 3) := by decide +kernel
theorem dX9_moveOf_80 : decode cX9_moveOf 80 = .ok (.goto (-68), 3) := by decide +kernel
theorem dX9_moveOf_83 : decode cX9_moveOf 83 = .ok (.iinc 3 1, 3) := by decide +kernel
theorem dX9_moveOf_86 : decode cX9_moveOf 86 = .ok (.goto (-82), 3) := by decide +kernel
theorem dX9_moveOf_89 : decode cX9_moveOf 89 = .ok (.return_, 1) := by decide +kernel
theorem dX9_walk_0 : decode cX9_walk 0 = .ok (.iload_n 2, 1) := by decide +kernel
theorem dX9_walk_1 : decode cX9_walk 1 = .ok (.i2l, 1) := by decide +kernel
theorem dX9_walk_2 : decode cX9_walk 2 = .ok (.lconst 0, 1) := by decide +kernel
theorem dX9_walk_3 : decode cX9_walk 3 = .ok (.ldc2_w 173, 3) := by decide +kernel
theorem dX9_walk_6 : decode cX9_walk 6 = .ok (.invokestatic 97, 3) := by decide +kernel
theorem dX9_walk_9 : decode cX9_walk 9 = .ok (.ifCond .ne 5, 3) := by decide +kernel
theorem dX9_walk_12 : decode cX9_walk 12 = .ok (.iconst (-1), 1) := by decide +kernel
theorem dX9_walk_13 : decode cX9_walk 13 = .ok (.ireturn, 1) := by decide +kernel
theorem dX9_walk_14 : decode cX9_walk 14 = .ok (.iload_n 1, 1) := by decide +kernel
theorem dX9_walk_15 : decode cX9_walk 15 = .ok (.istore_n 3, 1) := by decide +kernel
theorem dX9_walk_16 : decode cX9_walk 16 = .ok (.iconst 0, 1) := by decide +kernel
theorem dX9_walk_17 : decode cX9_walk 17 = .ok (.istore 4, 2) := by decide +kernel
theorem dX9_walk_19 : decode cX9_walk 19 = .ok (.iload 4, 2) := by decide +kernel
theorem dX9_walk_21 : decode cX9_walk 21 = .ok (.iload_n 2, 1) := by decide +kernel
theorem dX9_walk_22 : decode cX9_walk 22 = .ok (.if_icmp .ge 51, 3) := by decide +kernel
theorem dX9_walk_25 : decode cX9_walk 25 = .ok (.aload_n 0, 1) := by decide +kernel
theorem dX9_walk_26 : decode cX9_walk 26 = .ok (.invokevirtual 112, 3) := by decide +kernel
theorem dX9_walk_29 : decode cX9_walk 29 = .ok (.istore 5, 2) := by decide +kernel
theorem dX9_walk_31 : decode cX9_walk 31 = .ok (.iload 5, 2) := by decide +kernel
theorem dX9_walk_33 : decode cX9_walk 33 = .ok (.ifCond .ne 8, 3) := by decide +kernel
theorem dX9_walk_36 : decode cX9_walk 36 = .ok (.aload_n 0, 1) := by decide +kernel
theorem dX9_walk_37 : decode cX9_walk 37 = .ok (.getfield 85, 3) := by decide +kernel
theorem dX9_walk_40 : decode cX9_walk 40 = .ok (.ireturn, 1) := by decide +kernel
theorem dX9_walk_41 : decode cX9_walk 41 = .ok (.ldc 175, 2) := by decide +kernel
theorem dX9_walk_43 : decode cX9_walk 43 = .ok (.iload_n 3, 1) := by decide +kernel
theorem dX9_walk_44 : decode cX9_walk 44 = .ok (.imul, 1) := by decide +kernel
theorem dX9_walk_45 : decode cX9_walk 45 = .ok (.sipush 12345, 3) := by decide +kernel
theorem dX9_walk_48 : decode cX9_walk 48 = .ok (.iadd, 1) := by decide +kernel
theorem dX9_walk_49 : decode cX9_walk 49 = .ok (.istore_n 3, 1) := by decide +kernel
theorem dX9_walk_50 : decode cX9_walk 50 = .ok (.aload_n 0, 1) := by decide +kernel
theorem dX9_walk_51 : decode cX9_walk 51 = .ok (.iload_n 3, 1) := by decide +kernel
theorem dX9_walk_52 : decode cX9_walk 52 = .ok (.bipush 16, 2) := by decide +kernel
theorem dX9_walk_54 : decode cX9_walk 54 = .ok (.iushr, 1) := by decide +kernel
theorem dX9_walk_55 : decode cX9_walk 55 = .ok (.iload 5, 2) := by decide +kernel
theorem dX9_walk_57 : decode cX9_walk 57 = .ok (.irem, 1) := by decide +kernel
theorem dX9_walk_58 : decode cX9_walk 58 = .ok (.invokevirtual 176, 3) := by decide +kernel
theorem dX9_walk_61 : decode cX9_walk 61 = .ok (.aload_n 0, 1) := by decide +kernel
theorem dX9_walk_62 : decode cX9_walk 62 = .ok (.invokevirtual 179, 3) := by decide +kernel
theorem dX9_walk_65 : decode cX9_walk 65 = .ok (.istore 6, 2) := by decide +kernel
theorem dX9_walk_67 : decode cX9_walk 67 = .ok (.iinc 4 1, 3) := by decide +kernel
theorem dX9_walk_70 : decode cX9_walk 70 = .ok (.goto (-51), 3) := by decide +kernel
theorem dX9_walk_73 : decode cX9_walk 73 = .ok (.aload_n 0, 1) := by decide +kernel
theorem dX9_walk_74 : decode cX9_walk 74 = .ok (.getfield 85, 3) := by decide +kernel
theorem dX9_walk_77 : decode cX9_walk 77 = .ok (.ireturn, 1) := by decide +kernel
theorem dX9_around_0 : decode cX9_around 0 = .ok (.iconst 0, 1) := by decide +kernel
theorem dX9_around_1 : decode cX9_around 1 = .ok (.istore_n 1, 1) := by decide +kernel
theorem dX9_around_2 : decode cX9_around 2 = .ok (.iload_n 1, 1) := by decide +kernel
theorem dX9_around_3 : decode cX9_around 3 = .ok (.bipush 9, 2) := by decide +kernel
theorem dX9_around_5 : decode cX9_around 5 = .ok (.if_icmp .ge 69, 3) := by decide +kernel
theorem dX9_around_8 : decode cX9_around 8 = .ok (.iconst 0, 1) := by decide +kernel
theorem dX9_around_9 : decode cX9_around 9 = .ok (.istore_n 2, 1) := by decide +kernel
theorem dX9_around_10 : decode cX9_around 10 = .ok (.iload_n 2, 1) := by decide +kernel
theorem dX9_around_11 : decode cX9_around 11 = .ok (.bipush 9, 2) := by decide +kernel
theorem dX9_around_13 : decode cX9_around 13 = .ok (.if_icmp .ge 55, 3) := by decide +kernel
theorem dX9_around_16 : decode cX9_around 16 = .ok (.iconst 0, 1) := by decide +kernel
theorem dX9_around_17 : decode cX9_around 17 = .ok (.istore_n 3, 1) := by decide +kernel
theorem dX9_around_18 : decode cX9_around 18 = .ok (.iload_n 3, 1) := by decide +kernel
theorem dX9_around_19 : decode cX9_around 19 = .ok (.bipush 9, 2) := by decide +kernel
theorem dX9_around_21 : decode cX9_around 21 = .ok (.if_icmp .ge 41, 3) := by decide +kernel
theorem dX9_around_24 : decode cX9_around 24 = .ok (.aload_n 0, 1) := by decide +kernel
theorem dX9_around_25 : decode cX9_around 25 = .ok (.getfield 45, 3) := by decide +kernel
theorem dX9_around_28 : decode cX9_around 28 = .ok (.bipush 81, 2) := by decide +kernel
theorem dX9_around_30 : decode cX9_around 30 = .ok (.iload_n 2, 1) := by decide +kernel
theorem dX9_around_31 : decode cX9_around 31 = .ok (.imul, 1) := by decide +kernel
theorem dX9_around_32 : decode cX9_around 32 = .ok (.bipush 9, 2) := by decide +kernel
theorem dX9_around_34 : decode cX9_around 34 = .ok (.iload_n 3, 1) := by decide +kernel
theorem dX9_around_35 : decode cX9_around 35 = .ok (.imul, 1) := by decide +kernel
theorem dX9_around_36 : decode cX9_around 36 = .ok (.iadd, 1) := by decide +kernel
theorem dX9_around_37 : decode cX9_around 37 = .ok (.iload_n 1, 1) := by decide +kernel
theorem dX9_around_38 : decode cX9_around 38 = .ok (.iadd, 1) := by decide +kernel
theorem dX9_around_39 : decode cX9_around 39 = .ok (.aload_n 0, 1) := by decide +kernel
theorem dX9_around_40 : decode cX9_around 40 = .ok (.getfield 17, 3) := by decide +kernel
theorem dX9_around_43 : decode cX9_around 43 = .ok (.bipush 81, 2) := by decide +kernel
theorem dX9_around_45 : decode cX9_around 45 = .ok (.iload_n 1, 1) := by decide +kernel
theorem dX9_around_46 : decode cX9_around 46 = .ok (.imul, 1) := by decide +kernel
theorem dX9_around_47 : decode cX9_around 47 = .ok (.bipush 9, 2) := by decide +kernel
theorem dX9_around_49 : decode cX9_around 49 = .ok (.iload_n 2, 1) := by decide +kernel
theorem dX9_around_50 : decode cX9_around 50 = .ok (.imul, 1) := by decide +kernel
theorem dX9_around_51 : decode cX9_around 51 = .ok (.iadd, 1) := by decide +kernel
theorem dX9_around_52 : decode cX9_around 52 = .ok (.iload_n 3, 1) := by decide +kernel
theorem dX9_around_53 : decode cX9_around 53 = .ok (.iadd, 1) := by decide +kernel
theorem dX9_around_54 : decode cX9_around 54 = .ok (.iaload, 1) := by decide +kernel
theorem dX9_around_55 : decode cX9_around 55 = .ok (.iastore, 1) := by decide +kernel
theorem dX9_around_56 : decode cX9_around 56 = .ok (.iinc 3 1, 3) := by decide +kernel
theorem dX9_around_59 : decode cX9_around 59 = .ok (.goto (-41), 3) := by decide +kernel
theorem dX9_around_62 : decode cX9_around 62 = .ok (.iinc 2 1, 3) := by decide +kernel
theorem dX9_around_65 : decode cX9_around 65 = .ok (.goto (-55), 3) := by decide +kernel
theorem dX9_around_68 : decode cX9_around 68 = .ok (.iinc 1 1, 3) := by decide +kernel
theorem dX9_around_71 : decode cX9_around 71 = .ok (.goto (-69), 3) := by decide +kernel
theorem dX9_around_74 : decode cX9_around 74 = .ok (.iconst 0, 1) := by decide +kernel
theorem dX9_around_75 : decode cX9_around 75 = .ok (.istore_n 1, 1) := by decide +kernel
theorem dX9_around_76 : decode cX9_around 76 = .ok (.iload_n 1, 1) := by decide +kernel
theorem dX9_around_77 : decode cX9_around 77 = .ok (.sipush 729, 3) := by decide +kernel
theorem dX9_around_80 : decode cX9_around 80 = .ok (.if_icmp .ge 21, 3) := by decide +kernel
theorem dX9_around_83 : decode cX9_around 83 = .ok (.aload_n 0, 1) := by decide +kernel
theorem dX9_around_84 : decode cX9_around 84 = .ok (.getfield 17, 3) := by decide +kernel
theorem dX9_around_87 : decode cX9_around 87 = .ok (.iload_n 1, 1) := by decide +kernel
theorem dX9_around_88 : decode cX9_around 88 = .ok (.aload_n 0, 1) := by decide +kernel
theorem dX9_around_89 : decode cX9_around 89 = .ok (.getfield 45, 3) := by decide +kernel
theorem dX9_around_92 : decode cX9_around 92 = .ok (.iload_n 1, 1) := by decide +kernel
theorem dX9_around_93 : decode cX9_around 93 = .ok (.iaload, 1) := by decide +kernel
theorem dX9_around_94 : decode cX9_around 94 = .ok (.iastore, 1) := by decide +kernel
theorem dX9_around_95 : decode cX9_around 95 = .ok (.iinc 1 1, 3) := by decide +kernel
theorem dX9_around_98 : decode cX9_around 98 = .ok (.goto (-22), 3) := by decide +kernel
theorem dX9_around_101 : decode cX9_around 101 = .ok (.iconst 0, 1) := by decide +kernel
theorem dX9_around_102 : decode cX9_around 102 = .ok (.istore_n 1, 1) := by decide +kernel
theorem dX9_around_103 : decode cX9_around 103 = .ok (.iload_n 1, 1) := by decide +kernel
theorem dX9_around_104 : decode cX9_around 104 = .ok (.aload_n 0, 1) := by decide +kernel
theorem dX9_around_105 : decode cX9_around 105 = .ok (.getfield 85, 3) := by decide +kernel
theorem dX9_around_108 : decode cX9_around 108 = .ok (.if_icmp .ge 103, 3) := by decide +kernel
theorem dX9_around_111 : decode cX9_around 111 = .ok (.iconst 0, 1) := by decide +kernel
theorem dX9_around_112 : decode cX9_around 112 = .ok (.istore_n 2, 1) := by decide +kernel
theorem dX9_around_113 : decode cX9_around 113 = .ok (.iload_n 2, 1) := by decide +kernel
theorem dX9_around_114 : decode cX9_around 114 = .ok (.bipush 9, 2) := by decide +kernel
theorem dX9_around_116 : decode cX9_around 116 = .ok (.if_icmp .ge 89, 3) := by decide +kernel
theorem dX9_around_119 : decode cX9_around 119 = .ok (.aload_n 0, 1) := by decide +kernel
theorem dX9_around_120 : decode cX9_around 120 = .ok (.getfield 20, 3) := by decide +kernel
theorem dX9_around_123 : decode cX9_around 123 = .ok (.bipush 27, 2) := by decide +kernel
theorem dX9_around_125 : decode cX9_around 125 = .ok (.iload_n 1, 1) := by decide +kernel
theorem dX9_around_126 : decode cX9_around 126 = .ok (.imul, 1) := by decide +kernel
theorem dX9_around_127 : decode cX9_around 127 = .ok (.iload_n 2, 1) := by decide +kernel
theorem dX9_around_128 : decode cX9_around 128 = .ok (.iadd, 1) := by decide +kernel
theorem dX9_around_129 : decode cX9_around 129 = .ok (.iaload, 1) := by decide +kernel
theorem dX9_around_130 : decode cX9_around 130 = .ok (.istore_n 3, 1) := by decide +kernel
theorem dX9_around_131 : decode cX9_around 131 = .ok (.aload_n 0, 1) := by decide +kernel
theorem dX9_around_132 : decode cX9_around 132 = .ok (.getfield 20, 3) := by decide +kernel
theorem dX9_around_135 : decode cX9_around 135 = .ok (.bipush 27, 2) := by decide +kernel
theorem dX9_around_137 : decode cX9_around 137 = .ok (.iload_n 1, 1) := by decide +kernel
theorem dX9_around_138 : decode cX9_around 138 = .ok (.imul, 1) := by decide +kernel
theorem dX9_around_139 : decode cX9_around 139 = .ok (.iload_n 2, 1) := by decide +kernel
theorem dX9_around_140 : decode cX9_around 140 = .ok (.iadd, 1) := by decide +kernel
theorem dX9_around_141 : decode cX9_around 141 = .ok (.aload_n 0, 1) := by decide +kernel
theorem dX9_around_142 : decode cX9_around 142 = .ok (.getfield 20, 3) := by decide +kernel
theorem dX9_around_145 : decode cX9_around 145 = .ok (.bipush 27, 2) := by decide +kernel
theorem dX9_around_147 : decode cX9_around 147 = .ok (.iload_n 1, 1) := by decide +kernel
theorem dX9_around_148 : decode cX9_around 148 = .ok (.imul, 1) := by decide +kernel
theorem dX9_around_149 : decode cX9_around 149 = .ok (.bipush 9, 2) := by decide +kernel
theorem dX9_around_151 : decode cX9_around 151 = .ok (.iadd, 1) := by decide +kernel
theorem dX9_around_152 : decode cX9_around 152 = .ok (.iload_n 2, 1) := by decide +kernel
theorem dX9_around_153 : decode cX9_around 153 = .ok (.iadd, 1) := by decide +kernel
theorem dX9_around_154 : decode cX9_around 154 = .ok (.iaload, 1) := by decide +kernel
theorem dX9_around_155 : decode cX9_around 155 = .ok (.iastore, 1) := by decide +kernel
theorem dX9_around_156 : decode cX9_around 156 = .ok (.aload_n 0, 1) := by decide +kernel
theorem dX9_around_157 : decode cX9_around 157 = .ok (.getfield 20, 3) := by decide +kernel
theorem dX9_around_160 : decode cX9_around 160 = .ok (.bipush 27, 2) := by decide +kernel
theorem dX9_around_162 : decode cX9_around 162 = .ok (.iload_n 1, 1) := by decide +kernel
theorem dX9_around_163 : decode cX9_around 163 = .ok (.imul, 1) := by decide +kernel
theorem dX9_around_164 : decode cX9_around 164 = .ok (.bipush 9, 2) := by decide +kernel
theorem dX9_around_166 : decode cX9_around 166 = .ok (.iadd, 1) := by decide +kernel
theorem dX9_around_167 : decode cX9_around 167 = .ok (.iload_n 2, 1) := by decide +kernel
theorem dX9_around_168 : decode cX9_around 168 = .ok (.iadd, 1) := by decide +kernel
theorem dX9_around_169 : decode cX9_around 169 = .ok (.aload_n 0, 1) := by decide +kernel
theorem dX9_around_170 : decode cX9_around 170 = .ok (.getfield 20, 3) := by decide +kernel
theorem dX9_around_173 : decode cX9_around 173 = .ok (.bipush 27, 2) := by decide +kernel
theorem dX9_around_175 : decode cX9_around 175 = .ok (.iload_n 1, 1) := by decide +kernel
theorem dX9_around_176 : decode cX9_around 176 = .ok (.imul, 1) := by decide +kernel
theorem dX9_around_177 : decode cX9_around 177 = .ok (.bipush 18, 2) := by decide +kernel
theorem dX9_around_179 : decode cX9_around 179 = .ok (.iadd, 1) := by decide +kernel
theorem dX9_around_180 : decode cX9_around 180 = .ok (.iload_n 2, 1) := by decide +kernel
theorem dX9_around_181 : decode cX9_around 181 = .ok (.iadd, 1) := by decide +kernel
theorem dX9_around_182 : decode cX9_around 182 = .ok (.iaload, 1) := by decide +kernel
theorem dX9_around_183 : decode cX9_around 183 = .ok (.iastore, 1) := by decide +kernel
theorem dX9_around_184 : decode cX9_around 184 = .ok (.aload_n 0, 1) := by decide +kernel
theorem dX9_around_185 : decode cX9_around 185 = .ok (.getfield 20, 3) := by decide +kernel
theorem dX9_around_188 : decode cX9_around 188 = .ok (.bipush 27, 2) := by decide +kernel
theorem dX9_around_190 : decode cX9_around 190 = .ok (.iload_n 1, 1) := by decide +kernel
theorem dX9_around_191 : decode cX9_around 191 = .ok (.imul, 1) := by decide +kernel
theorem dX9_around_192 : decode cX9_around 192 = .ok (.bipush 18, 2) := by decide +kernel
theorem dX9_around_194 : decode cX9_around 194 = .ok (.iadd, 1) := by decide +kernel
theorem dX9_around_195 : decode cX9_around 195 = .ok (.iload_n 2, 1) := by decide +kernel
theorem dX9_around_196 : decode cX9_around 196 = .ok (.iadd, 1) := by decide +kernel
theorem dX9_around_197 : decode cX9_around 197 = .ok (.iload_n 3, 1) := by decide +kernel
theorem dX9_around_198 : decode cX9_around 198 = .ok (.iastore, 1) := by decide +kernel
theorem dX9_around_199 : decode cX9_around 199 = .ok (.iinc 2 1, 3) := by decide +kernel
theorem dX9_around_202 : decode cX9_around 202 = .ok (.goto (-89), 3) := by decide +kernel
theorem dX9_around_205 : decode cX9_around 205 = .ok (.iinc 1 1, 3) := by decide +kernel
theorem dX9_around_208 : decode cX9_around 208 = .ok (.goto (-105), 3) := by decide +kernel
theorem dX9_around_211 : decode cX9_around 211 = .ok (.aload_n 0, 1) := by decide +kernel
theorem dX9_around_212 : decode cX9_around 212 = .ok (.getfield 13, 3) := by decide +kernel
theorem dX9_around_215 : decode cX9_around 215 = .ok (.iconst 0, 1) := by decide +kernel
theorem dX9_around_216 : decode cX9_around 216 = .ok (.iaload, 1) := by decide +kernel
theorem dX9_around_217 : decode cX9_around 217 = .ok (.istore_n 1, 1) := by decide +kernel
theorem dX9_around_218 : decode cX9_around 218 = .ok (.aload_n 0, 1) := by decide +kernel
theorem dX9_around_219 : decode cX9_around 219 = .ok (.getfield 13, 3) := by decide +kernel
theorem dX9_around_222 : decode cX9_around 222 = .ok (.iconst 0, 1) := by decide +kernel
theorem dX9_around_223 : decode cX9_around 223 = .ok (.aload_n 0, 1) := by decide +kernel
theorem dX9_around_224 : decode cX9_around 224 = .ok (.getfield 13, 3) := by decide +kernel
theorem dX9_around_227 : decode cX9_around 227 = .ok (.iconst 1, 1) := by decide +kernel
theorem dX9_around_228 : decode cX9_around 228 = .ok (.iaload, 1) := by decide +kernel
theorem dX9_around_229 : decode cX9_around 229 = .ok (.iastore, 1) := by decide +kernel
theorem dX9_around_230 : decode cX9_around 230 = .ok (.aload_n 0, 1) := by decide +kernel
theorem dX9_around_231 : decode cX9_around 231 = .ok (.getfield 13, 3) := by decide +kernel
theorem dX9_around_234 : decode cX9_around 234 = .ok (.iconst 1, 1) := by decide +kernel
theorem dX9_around_235 : decode cX9_around 235 = .ok (.aload_n 0, 1) := by decide +kernel
theorem dX9_around_236 : decode cX9_around 236 = .ok (.getfield 13, 3) := by decide +kernel
theorem dX9_around_239 : decode cX9_around 239 = .ok (.iconst 2, 1) := by decide +kernel
theorem dX9_around_240 : decode cX9_around 240 = .ok (.iaload, 1) := by decide +kernel
theorem dX9_around_241 : decode cX9_around 241 = .ok (.iastore, 1) := by decide +kernel
theorem dX9_around_242 : decode cX9_around 242 = .ok (.aload_n 0, 1) := by decide +kernel
theorem dX9_around_243 : decode cX9_around 243 = .ok (.getfield 13, 3) := by decide +kernel
theorem dX9_around_246 : decode cX9_around 246 = .ok (.iconst 2, 1) := by decide +kernel
theorem dX9_around_247 : decode cX9_around 247 = .ok (.iload_n 1, 1) := by decide +kernel
theorem dX9_around_248 : decode cX9_around 248 = .ok (.iastore, 1) := by decide +kernel
theorem dX9_around_249 : decode cX9_around 249 = .ok (.aload_n 0, 1) := by decide +kernel
theorem dX9_around_250 : decode cX9_around 250 = .ok (.invokevirtual 88, 3) := by decide +kernel
theorem dX9_around_253 : decode cX9_around 253 = .ok (.aload_n 0, 1) := by decide +kernel
theorem dX9_around_254 : decode cX9_around 254 = .ok (.iconst 0, 1) := by decide +kernel
theorem dX9_around_255 : decode cX9_around 255 = .ok (.putfield 91, 3) := by decide +kernel
theorem dX9_around_258 : decode cX9_around 258 = .ok (.iconst 1, 1) := by decide +kernel
theorem dX9_around_259 : decode cX9_around 259 = .ok (.ireturn, 1) := by decide +kernel
theorem dX9_turn_0 : decode cX9_turn 0 = .ok (.iload_n 1, 1) := by decide +kernel
theorem dX9_turn_1 : decode cX9_turn 1 = .ok (.i2l, 1) := by decide +kernel
theorem dX9_turn_2 : decode cX9_turn 2 = .ok (.lconst 0, 1) := by decide +kernel
theorem dX9_turn_3 : decode cX9_turn 3 = .ok (.ldc2_w 130, 3) := by decide +kernel
theorem dX9_turn_6 : decode cX9_turn 6 = .ok (.invokestatic 97, 3) := by decide +kernel
theorem dX9_turn_9 : decode cX9_turn 9 = .ok (.ifCond .eq 61, 3) := by decide +kernel
theorem dX9_turn_12 : decode cX9_turn 12 = .ok (.iload_n 2, 1) := by decide +kernel
theorem dX9_turn_13 : decode cX9_turn 13 = .ok (.i2l, 1) := by decide +kernel
theorem dX9_turn_14 : decode cX9_turn 14 = .ok (.lconst 0, 1) := by decide +kernel
theorem dX9_turn_15 : decode cX9_turn 15 = .ok (.aload_n 0, 1) := by decide +kernel
theorem dX9_turn_16 : decode cX9_turn 16 = .ok (.getfield 13, 3) := by decide +kernel
theorem dX9_turn_19 : decode cX9_turn 19 = .ok (.iload_n 1, 1) := by decide +kernel
theorem dX9_turn_20 : decode cX9_turn 20 = .ok (.iaload, 1) := by decide +kernel
theorem dX9_turn_21 : decode cX9_turn 21 = .ok (.iconst 1, 1) := by decide +kernel
theorem dX9_turn_22 : decode cX9_turn 22 = .ok (.isub, 1) := by decide +kernel
theorem dX9_turn_23 : decode cX9_turn 23 = .ok (.i2l, 1) := by decide +kernel
theorem dX9_turn_24 : decode cX9_turn 24 = .ok (.invokestatic 97, 3) := by decide +kernel
theorem dX9_turn_27 : decode cX9_turn 27 = .ok (.ifCond .eq 43, 3) := by decide +kernel
theorem dX9_turn_30 : decode cX9_turn 30 = .ok (.iload_n 3, 1) := by decide +kernel
theorem dX9_turn_31 : decode cX9_turn 31 = .ok (.i2l, 1) := by decide +kernel
theorem dX9_turn_32 : decode cX9_turn 32 = .ok (.lconst 0, 1) := by decide +kernel
theorem dX9_turn_33 : decode cX9_turn 33 = .ok (.aload_n 0, 1) := by decide +kernel
theorem dX9_turn_34 : decode cX9_turn 34 = .ok (.getfield 13, 3) := by decide +kernel
theorem dX9_turn_37 : decode cX9_turn 37 = .ok (.iload_n 1, 1) := by decide +kernel
theorem dX9_turn_38 : decode cX9_turn 38 = .ok (.iaload, 1) := by decide +kernel
theorem dX9_turn_39 : decode cX9_turn 39 = .ok (.iconst 1, 1) := by decide +kernel
theorem dX9_turn_40 : decode cX9_turn 40 = .ok (.isub, 1) := by decide +kernel
theorem dX9_turn_41 : decode cX9_turn 41 = .ok (.i2l, 1) := by decide +kernel
theorem dX9_turn_42 : decode cX9_turn 42 = .ok (.invokestatic 97, 3) := by decide +kernel
theorem dX9_turn_45 : decode cX9_turn 45 = .ok (.ifCond .eq 25, 3) := by decide +kernel
theorem dX9_turn_48 : decode cX9_turn 48 = .ok (.iload_n 2, 1) := by decide +kernel
theorem dX9_turn_49 : decode cX9_turn 49 = .ok (.iload_n 3, 1) := by decide +kernel
theorem dX9_turn_50 : decode cX9_turn 50 = .ok (.if_icmp .eq 20, 3) := by decide +kernel
theorem dX9_turn_53 : decode cX9_turn 53 = .ok (.iload 4, 2) := by decide +kernel
theorem dX9_turn_55 : decode cX9_turn 55 = .ok (.i2l, 1) := by decide +kernel
theorem dX9_turn_56 : decode cX9_turn 56 = .ok (.lconst 0, 1) := by decide +kernel
theorem dX9_turn_57 : decode cX9_turn 57 = .ok (.aload_n 0, 1) := by decide +kernel
theorem dX9_turn_58 : decode cX9_turn 58 = .ok (.getfield 7, 3) := by decide +kernel
theorem dX9_turn_61 : decode cX9_turn 61 = .ok (.iconst 1, 1) := by decide +kernel
theorem dX9_turn_62 : decode cX9_turn 62 = .ok (.isub, 1) := by decide +kernel
theorem dX9_turn_63 : decode cX9_turn 63 = .ok (.i2l, 1) := by decide +kernel
theorem dX9_turn_64 : decode cX9_turn 64 = .ok (.invokestatic 97, 3) := by decide +kernel
theorem dX9_turn_67 : decode cX9_turn 67 = .ok (.ifCond .ne 5, 3) := by decide +kernel
theorem dX9_turn_70 : decode cX9_turn 70 = .ok (.iconst (-1), 1) := by decide +kernel
theorem dX9_turn_71 : decode cX9_turn 71 = .ok (.ireturn, 1) := by decide +kernel
theorem dX9_turn_72 : decode cX9_turn 72 = .ok (.iload_n 1, 1) := by decide +kernel
theorem dX9_turn_73 : decode cX9_turn 73 = .ok (.ifCond .ne 8, 3) := by decide +kernel
theorem dX9_turn_76 : decode cX9_turn 76 = .ok (.bipush 81, 2) := by decide +kernel
theorem dX9_turn_78 : decode cX9_turn 78 = .ok (.goto 14, 3) := by decide +kernel
theorem dX9_turn_81 : decode cX9_turn 81 = .ok (.iload_n 1, 1) := by decide +kernel
theorem dX9_turn_82 : decode cX9_turn 82 = .ok (.iconst 1, 1) := by decide +kernel
theorem dX9_turn_83 : decode cX9_turn 83 = .ok (.if_icmp .ne 8, 3) := by decide +kernel
theorem dX9_turn_86 : decode cX9_turn 86 = .ok (.bipush 9, 2) := by decide +kernel
theorem dX9_turn_88 : decode cX9_turn 88 = .ok (.goto 4, 3) := by decide +kernel
theorem dX9_turn_91 : decode cX9_turn 91 = .ok (.iconst 1, 1) := by decide +kernel
theorem dX9_turn_92 : decode cX9_turn 92 = .ok (.istore 5, 2) := by decide +kernel
theorem dX9_turn_94 : decode cX9_turn 94 = .ok (.iconst 0, 1) := by decide +kernel
theorem dX9_turn_95 : decode cX9_turn 95 = .ok (.istore 6, 2) := by decide +kernel
theorem dX9_turn_97 : decode cX9_turn 97 = .ok (.iload 6, 2) := by decide +kernel
theorem dX9_turn_99 : decode cX9_turn 99 = .ok (.sipush 729, 3) := by decide +kernel
theorem dX9_turn_102 : decode cX9_turn 102 = .ok (.if_icmp .ge 58, 3) := by decide +kernel
theorem dX9_turn_105 : decode cX9_turn 105 = .ok (.iload 6, 2) := by decide +kernel
theorem dX9_turn_107 : decode cX9_turn 107 = .ok (.iload 5, 2) := by decide +kernel
theorem dX9_turn_109 : decode cX9_turn 109 = .ok (.idiv, 1) := by decide +kernel
theorem dX9_turn_110 : decode cX9_turn 110 = .ok (.bipush 9, 2) := by decide +kernel
theorem dX9_turn_112 : decode cX9_turn 112 = .ok (.irem, 1) := by decide +kernel
theorem dX9_turn_113 : decode cX9_turn 113 = .ok (.iload_n 2, 1) := by decide +kernel
theorem dX9_turn_114 : decode cX9_turn 114 = .ok (.if_icmp .ne 40, 3) := by decide +kernel
theorem dX9_turn_117 : decode cX9_turn 117 = .ok (.aload_n 0, 1) := by decide +kernel
theorem dX9_turn_118 : decode cX9_turn 118 = .ok (.getfield 17, 3) := by decide +kernel
theorem dX9_turn_121 : decode cX9_turn 121 = .ok (.iload 6, 2) := by decide +kernel
theorem dX9_turn_123 : decode cX9_turn 123 = .ok (.aload_n 0, 1) := by decide +kernel
theorem dX9_turn_124 : decode cX9_turn 124 = .ok (.getfield 17, 3) := by decide +kernel
theorem dX9_turn_127 : decode cX9_turn 127 = .ok (.iload 6, 2) := by decide +kernel
theorem dX9_turn_129 : decode cX9_turn 129 = .ok (.iaload, 1) := by decide +kernel
theorem dX9_turn_130 : decode cX9_turn 130 = .ok (.iload 4, 2) := by decide +kernel
theorem dX9_turn_132 : decode cX9_turn 132 = .ok (.aload_n 0, 1) := by decide +kernel
theorem dX9_turn_133 : decode cX9_turn 133 = .ok (.getfield 17, 3) := by decide +kernel
theorem dX9_turn_136 : decode cX9_turn 136 = .ok (.iload 6, 2) := by decide +kernel
theorem dX9_turn_138 : decode cX9_turn 138 = .ok (.iload_n 3, 1) := by decide +kernel
theorem dX9_turn_139 : decode cX9_turn 139 = .ok (.iload_n 2, 1) := by decide +kernel
theorem dX9_turn_140 : decode cX9_turn 140 = .ok (.isub, 1) := by decide +kernel
theorem dX9_turn_141 : decode cX9_turn 141 = .ok (.iload 5, 2) := by decide +kernel
theorem dX9_turn_143 : decode cX9_turn 143 = .ok (.imul, 1) := by decide +kernel
theorem dX9_turn_144 : decode cX9_turn 144 = .ok (.iadd, 1) := by decide +kernel
theorem dX9_turn_145 : decode cX9_turn 145 = .ok (.iaload, 1) := by decide +kernel
theorem dX9_turn_146 : decode cX9_turn 146 = .ok (.imul, 1) := by decide +kernel
theorem dX9_turn_147 : decode cX9_turn 147 = .ok (.iadd, 1) := by decide +kernel
theorem dX9_turn_148 : decode cX9_turn 148 = .ok (.aload_n 0, 1) := by decide +kernel
theorem dX9_turn_149 : decode cX9_turn 149 = .ok (.getfield 7, 3) := by decide +kernel
theorem dX9_turn_152 : decode cX9_turn 152 = .ok (.irem, 1) := by decide +kernel
theorem dX9_turn_153 : decode cX9_turn 153 = .ok (.iastore, 1) := by decide +kernel
theorem dX9_turn_154 : decode cX9_turn 154 = .ok (.iinc 6 1, 3) := by decide +kernel
theorem dX9_turn_157 : decode cX9_turn 157 = .ok (.goto (-60), 3) := by decide +kernel
theorem dX9_turn_160 : decode cX9_turn 160 = .ok (.iconst 0, 1) := by decide +kernel
theorem dX9_turn_161 : decode cX9_turn 161 = .ok (.istore 6, 2) := by decide +kernel
theorem dX9_turn_163 : decode cX9_turn 163 = .ok (.iload 6, 2) := by decide +kernel
theorem dX9_turn_165 : decode cX9_turn 165 = .ok (.aload_n 0, 1) := by decide +kernel
theorem dX9_turn_166 : decode cX9_turn 166 = .ok (.getfield 85, 3) := by decide +kernel
theorem dX9_turn_169 : decode cX9_turn 169 = .ok (.if_icmp .ge 57, 3) := by decide +kernel
theorem dX9_turn_172 : decode cX9_turn 172 = .ok (.bipush 27, 2) := by decide +kernel
theorem dX9_turn_174 : decode cX9_turn 174 = .ok (.iload 6, 2) := by decide +kernel
theorem dX9_turn_176 : decode cX9_turn 176 = .ok (.imul, 1) := by decide +kernel
theorem dX9_turn_177 : decode cX9_turn 177 = .ok (.bipush 9, 2) := by decide +kernel
theorem dX9_turn_179 : decode cX9_turn 179 = .ok (.iload_n 1, 1) := by decide +kernel
theorem dX9_turn_180 : decode cX9_turn 180 = .ok (.imul, 1) := by decide +kernel
theorem dX9_turn_181 : decode cX9_turn 181 = .ok (.iadd, 1) := by decide +kernel
theorem dX9_turn_182 : decode cX9_turn 182 = .ok (.istore 7, 2) := by decide +kernel
theorem dX9_turn_184 : decode cX9_turn 184 = .ok (.aload_n 0, 1) := by decide +kernel
theorem dX9_turn_185 : decode cX9_turn 185 = .ok (.getfield 20, 3) := by decide +kernel
theorem dX9_turn_188 : decode cX9_turn 188 = .ok (.iload 7, 2) := by decide +kernel
theorem dX9_turn_190 : decode cX9_turn 190 = .ok (.iload_n 2, 1) := by decide +kernel
theorem dX9_turn_191 : decode cX9_turn 191 = .ok (.iadd, 1) := by decide +kernel
theorem dX9_turn_192 : decode cX9_turn 192 = .ok (.aload_n 0, 1) := by decide +kernel
theorem dX9_turn_193 : decode cX9_turn 193 = .ok (.getfield 20, 3) := by decide +kernel
theorem dX9_turn_196 : decode cX9_turn 196 = .ok (.iload 7, 2) := by decide +kernel
theorem dX9_turn_198 : decode cX9_turn 198 = .ok (.iload_n 2, 1) := by decide +kernel
theorem dX9_turn_199 : decode cX9_turn 199 = .ok (.iadd, 1) := by decide +kernel
theorem dX9_turn_200 : decode cX9_turn 200 = .ok (.iaload, 1) := by decide +kernel
theorem dX9_turn_201 : decode cX9_turn 201 = .ok (.iload 4, 2) := by decide +kernel
theorem dX9_turn_203 : decode cX9_turn 203 = .ok (.aload_n 0, 1) := by decide +kernel
theorem dX9_turn_204 : decode cX9_turn 204 = .ok (.getfield 20, 3) := by decide +kernel
theorem dX9_turn_207 : decode cX9_turn 207 = .ok (.iload 7, 2) := by decide +kernel
theorem dX9_turn_209 : decode cX9_turn 209 = .ok (.iload_n 3, 1) := by decide +kernel
theorem dX9_turn_210 : decode cX9_turn 210 = .ok (.iadd, 1) := by decide +kernel
theorem dX9_turn_211 : decode cX9_turn 211 = .ok (.iaload, 1) := by decide +kernel
theorem dX9_turn_212 : decode cX9_turn 212 = .ok (.imul, 1) := by decide +kernel
theorem dX9_turn_213 : decode cX9_turn 213 = .ok (.iadd, 1) := by decide +kernel
theorem dX9_turn_214 : decode cX9_turn 214 = .ok (.aload_n 0, 1) := by decide +kernel
theorem dX9_turn_215 : decode cX9_turn 215 = .ok (.getfield 7, 3) := by decide +kernel
theorem dX9_turn_218 : decode cX9_turn 218 = .ok (.irem, 1) := by decide +kernel
theorem dX9_turn_219 : decode cX9_turn 219 = .ok (.iastore, 1) := by decide +kernel
theorem dX9_turn_220 : decode cX9_turn 220 = .ok (.iinc 6 1, 3) := by decide +kernel
theorem dX9_turn_223 : decode cX9_turn 223 = .ok (.goto (-60), 3) := by decide +kernel
theorem dX9_turn_226 : decode cX9_turn 226 = .ok (.aload_n 0, 1) := by decide +kernel
theorem dX9_turn_227 : decode cX9_turn 227 = .ok (.iconst 0, 1) := by decide +kernel
theorem dX9_turn_228 : decode cX9_turn 228 = .ok (.putfield 91, 3) := by decide +kernel
theorem dX9_turn_231 : decode cX9_turn 231 = .ok (.iconst 1, 1) := by decide +kernel
theorem dX9_turn_232 : decode cX9_turn 232 = .ok (.ireturn, 1) := by decide +kernel
theorem dX9_rankOfLines_0 : decode cX9_rankOfLines 0 = .ok (.iconst 0, 1) := by decide +kernel
theorem dX9_rankOfLines_1 : decode cX9_rankOfLines 1 = .ok (.istore_n 3, 1) := by decide +kernel
theorem dX9_rankOfLines_2 : decode cX9_rankOfLines 2 = .ok (.iconst 0, 1) := by decide +kernel
theorem dX9_rankOfLines_3 : decode cX9_rankOfLines 3 = .ok (.istore 4, 2) := by decide +kernel
theorem dX9_rankOfLines_5 : decode cX9_rankOfLines 5 = .ok (.iload 4, 2) := by decide +kernel
theorem dX9_rankOfLines_7 : decode cX9_rankOfLines 7 = .ok (.iload_n 2, 1) := by decide +kernel
theorem dX9_rankOfLines_8 : decode cX9_rankOfLines 8 = .ok (.if_icmp .ge 65, 3) := by decide +kernel
theorem dX9_rankOfLines_11 : decode cX9_rankOfLines 11 = .ok (.iload_n 3, 1) := by decide +kernel
theorem dX9_rankOfLines_12 : decode cX9_rankOfLines 12 = .ok (.iload_n 1, 1) := by decide +kernel
theorem dX9_rankOfLines_13 : decode cX9_rankOfLines 13 = .ok (.if_icmp .ge 60, 3) := by decide +kernel
theorem dX9_rankOfLines_16 : decode cX9_rankOfLines 16 = .ok (.iload_n 3, 1) := by decide +kernel
theorem dX9_rankOfLines_17 : decode cX9_rankOfLines 17 = .ok (.istore 5, 2) := by decide +kernel
theorem dX9_rankOfLines_19 : decode cX9_rankOfLines 19 = .ok (.iload 5, 2) := by decide +kernel
theorem dX9_rankOfLines_21 : decode cX9_rankOfLines 21 = .ok (.iload_n 1, 1) := by decide +kernel
theorem dX9_rankOfLines_22 : decode cX9_rankOfLines 22 = .ok (.if_icmp .ge 25, 3) := by decide +kernel
theorem dX9_rankOfLines_25 : decode cX9_rankOfLines 25 = .ok (.aload_n 0, 1) := by decide +kernel
theorem dX9_rankOfLines_26 : decode cX9_rankOfLines 26 = .ok (.getfield 51, 3) := by decide +kernel
theorem dX9_rankOfLines_29 : decode cX9_rankOfLines 29 = .ok (.bipush 81, 2) := by decide +kernel
theorem dX9_rankOfLines_31 : decode cX9_rankOfLines 31 = .ok (.iload 5, 2) := by decide +kernel
theorem dX9_rankOfLines_33 : decode cX9_rankOfLines 33 = .ok (.imul, 1) := by decide +kernel
theorem dX9_rankOfLines_34 : decode cX9_rankOfLines 34 = .ok (.iload 4, 2) := by decide +kernel
theorem dX9_rankOfLines_36 : decode cX9_rankOfLines 36 = .ok (.iadd, 1) := by decide +kernel
theorem dX9_rankOfLines_37 : decode cX9_rankOfLines 37 = .ok (.iaload, 1) := by decide +kernel
theorem dX9_rankOfLines_38 : decode cX9_rankOfLines 38 = .ok (.ifCond .ne 9, 3) := by decide +kernel
theorem dX9_rankOfLines_41 : decode cX9_rankOfLines 41 = .ok (.iinc 5 1, 3) := by decide +kernel
theorem dX9_rankOfLines_44 : decode cX9_rankOfLines 44 = .ok (.goto (-25), 3) := by decide +kernel
theorem dX9_rankOfLines_47 : decode cX9_rankOfLines 47 = .ok (.iload 5, 2) := by decide +kernel
theorem dX9_rankOfLines_49 : decode cX9_rankOfLines 49 = .ok (.iload_n 1, 1) := by decide +kernel
theorem dX9_rankOfLines_50 : decode cX9_rankOfLines 50 = .ok (.if_icmp .ge 17, 3) := by decide +kernel
theorem dX9_rankOfLines_53 : decode cX9_rankOfLines 53 = .ok (.aload_n 0, 1) := by decide +kernel
theorem dX9_rankOfLines_54 : decode cX9_rankOfLines 54 = .ok (.iload 5, 2) := by decide +kernel
theorem dX9_rankOfLines_56 : decode cX9_rankOfLines 56 = .ok (.iload_n 3, 1) := by decide +kernel
theorem dX9_rankOfLines_57 : decode cX9_rankOfLines 57 = .ok (.iload 4, 2) := by decide +kernel
theorem dX9_rankOfLines_59 : decode cX9_rankOfLines 59 = .ok (.iload_n 1, 1) := by decide +kernel
theorem dX9_rankOfLines_60 : decode cX9_rankOfLines 60 = .ok (.iload_n 2, 1) := by decide +kernel
theorem dX9_rankOfLines_61 : decode cX9_rankOfLines 61 = .ok (.invokevirtual 182, 3) := by decide +kernel
theorem dX9_rankOfLines_64 : decode cX9_rankOfLines 64 = .ok (.iinc 3 1, 3) := by decide +kernel
theorem dX9_rankOfLines_67 : decode cX9_rankOfLines 67 = .ok (.iinc 4 1, 3) := by decide +kernel
theorem dX9_rankOfLines_70 : decode cX9_rankOfLines 70 = .ok (.goto (-65), 3) := by decide +kernel
theorem dX9_rankOfLines_73 : decode cX9_rankOfLines 73 = .ok (.iload_n 3, 1) := by decide +kernel
theorem dX9_rankOfLines_74 : decode cX9_rankOfLines 74 = .ok (.ireturn, 1) := by decide +kernel
theorem dX9_takeLine_0 : decode cX9_takeLine 0 = .ok (.iconst 0, 1) := by decide +kernel
theorem dX9_takeLine_1 : decode cX9_takeLine 1 = .ok (.istore 6, 2) := by decide +kernel
theorem dX9_takeLine_3 : decode cX9_takeLine 3 = .ok (.iload 6, 2) := by decide +kernel
theorem dX9_takeLine_5 : decode cX9_takeLine 5 = .ok (.iload 5, 2) := by decide +kernel
theorem dX9_takeLine_7 : decode cX9_takeLine 7 = .ok (.if_icmp .ge 61, 3) := by decide +kernel
theorem dX9_takeLine_10 : decode cX9_takeLine 10 = .ok (.aload_n 0, 1) := by decide +kernel
theorem dX9_takeLine_11 : decode cX9_takeLine 11 = .ok (.getfield 51, 3) := by decide +kernel
theorem dX9_takeLine_14 : decode cX9_takeLine 14 = .ok (.bipush 81, 2) := by decide +kernel
theorem dX9_takeLine_16 : decode cX9_takeLine 16 = .ok (.iload_n 1, 1) := by decide +kernel
theorem dX9_takeLine_17 : decode cX9_takeLine 17 = .ok (.imul, 1) := by decide +kernel
theorem dX9_takeLine_18 : decode cX9_takeLine 18 = .ok (.iload 6, 2) := by decide +kernel
theorem dX9_takeLine_20 : decode cX9_takeLine 20 = .ok (.iadd, 1) := by decide +kernel
theorem dX9_takeLine_21 : decode cX9_takeLine 21 = .ok (.iaload, 1) := by decide +kernel
theorem dX9_takeLine_22 : decode cX9_takeLine 22 = .ok (.istore 7, 2) := by decide +kernel
theorem dX9_takeLine_24 : decode cX9_takeLine 24 = .ok (.aload_n 0, 1) := by decide +kernel
theorem dX9_takeLine_25 : decode cX9_takeLine 25 = .ok (.getfield 51, 3) := by decide +kernel
theorem dX9_takeLine_28 : decode cX9_takeLine 28 = .ok (.bipush 81, 2) := by decide +kernel
theorem dX9_takeLine_30 : decode cX9_takeLine 30 = .ok (.iload_n 1, 1) := by decide +kernel
theorem dX9_takeLine_31 : decode cX9_takeLine 31 = .ok (.imul, 1) := by decide +kernel
theorem dX9_takeLine_32 : decode cX9_takeLine 32 = .ok (.iload 6, 2) := by decide +kernel
theorem dX9_takeLine_34 : decode cX9_takeLine 34 = .ok (.iadd, 1) := by decide +kernel
theorem dX9_takeLine_35 : decode cX9_takeLine 35 = .ok (.aload_n 0, 1) := by decide +kernel
theorem dX9_takeLine_36 : decode cX9_takeLine 36 = .ok (.getfield 51, 3) := by decide +kernel
theorem dX9_takeLine_39 : decode cX9_takeLine 39 = .ok (.bipush 81, 2) := by decide +kernel
theorem dX9_takeLine_41 : decode cX9_takeLine 41 = .ok (.iload_n 2, 1) := by decide +kernel
theorem dX9_takeLine_42 : decode cX9_takeLine 42 = .ok (.imul, 1) := by decide +kernel
theorem dX9_takeLine_43 : decode cX9_takeLine 43 = .ok (.iload 6, 2) := by decide +kernel
theorem dX9_takeLine_45 : decode cX9_takeLine 45 = .ok (.iadd, 1) := by decide +kernel
theorem dX9_takeLine_46 : decode cX9_takeLine 46 = .ok (.iaload, 1) := by decide +kernel
theorem dX9_takeLine_47 : decode cX9_takeLine 47 = .ok (.iastore, 1) := by decide +kernel
theorem dX9_takeLine_48 : decode cX9_takeLine 48 = .ok (.aload_n 0, 1) := by decide +kernel
theorem dX9_takeLine_49 : decode cX9_takeLine 49 = .ok (.getfield 51, 3) := by decide +kernel
theorem dX9_takeLine_52 : decode cX9_takeLine 52 = .ok (.bipush 81, 2) := by decide +kernel
theorem dX9_takeLine_54 : decode cX9_takeLine 54 = .ok (.iload_n 2, 1) := by decide +kernel
theorem dX9_takeLine_55 : decode cX9_takeLine 55 = .ok (.imul, 1) := by decide +kernel
theorem dX9_takeLine_56 : decode cX9_takeLine 56 = .ok (.iload 6, 2) := by decide +kernel
theorem dX9_takeLine_58 : decode cX9_takeLine 58 = .ok (.iadd, 1) := by decide +kernel
theorem dX9_takeLine_59 : decode cX9_takeLine 59 = .ok (.iload 7, 2) := by decide +kernel
theorem dX9_takeLine_61 : decode cX9_takeLine 61 = .ok (.iastore, 1) := by decide +kernel
theorem dX9_takeLine_62 : decode cX9_takeLine 62 = .ok (.iinc 6 1, 3) := by decide +kernel
theorem dX9_takeLine_65 : decode cX9_takeLine 65 = .ok (.goto (-62), 3) := by decide +kernel
theorem dX9_takeLine_68 : decode cX9_takeLine 68 = .ok (.aload_n 0, 1) := by decide +kernel
theorem dX9_takeLine_69 : decode cX9_takeLine 69 = .ok (.aload_n 0, 1) := by decide +kernel
theorem dX9_takeLine_70 : decode cX9_takeLine 70 = .ok (.getfield 51, 3) := by decide +kernel
theorem dX9_takeLine_73 : decode cX9_takeLine 73 = .ok (.bipush 81, 2) := by decide +kernel
theorem dX9_takeLine_75 : decode cX9_takeLine 75 = .ok (.iload_n 2, 1) := by decide +kernel
theorem dX9_takeLine_76 : decode cX9_takeLine 76 = .ok (.imul, 1) := by decide +kernel
theorem dX9_takeLine_77 : decode cX9_takeLine 77 = .ok (.iload_n 3, 1) := by decide +kernel
theorem dX9_takeLine_78 : decode cX9_takeLine 78 = .ok (.iadd, 1) := by decide +kernel
theorem dX9_takeLine_79 : decode cX9_takeLine 79 = .ok (.iaload, 1) := by decide +kernel
theorem dX9_takeLine_80 : decode cX9_takeLine 80 = .ok (.invokevirtual 147, 3) := by decide +kernel
theorem dX9_takeLine_83 : decode cX9_takeLine 83 = .ok (.istore 6, 2) := by decide +kernel
theorem dX9_takeLine_85 : decode cX9_takeLine 85 = .ok (.iload_n 2, 1) := by decide +kernel
theorem dX9_takeLine_86 : decode cX9_takeLine 86 = .ok (.iconst 1, 1) := by decide +kernel
theorem dX9_takeLine_87 : decode cX9_takeLine 87 = .ok (.iadd, 1) := by decide +kernel
theorem dX9_takeLine_88 : decode cX9_takeLine 88 = .ok (.istore 7, 2) := by decide +kernel
theorem dX9_takeLine_90 : decode cX9_takeLine 90 = .ok (.iload 7, 2) := by decide +kernel
theorem dX9_takeLine_92 : decode cX9_takeLine 92 = .ok (.iload 4, 2) := by decide +kernel
theorem dX9_takeLine_94 : decode cX9_takeLine 94 = .ok (.if_icmp .ge 109, 3) := by decide +kernel
theorem dX9_takeLine_97 : decode cX9_takeLine 97 = .ok (.aload_n 0, 1) := by decide +kernel
theorem dX9_takeLine_98 : decode cX9_takeLine 98 = .ok (.getfield 7, 3) := by decide +kernel
theorem dX9_takeLine_101 : decode cX9_takeLine 101 = .ok (.aload_n 0, 1) := by decide +kernel
theorem dX9_takeLine_102 : decode cX9_takeLine 102 = .ok (.getfield 51, 3) := by decide +kernel
theorem dX9_takeLine_105 : decode cX9_takeLine 105 = .ok (.bipush 81, 2) := by decide +kernel
theorem dX9_takeLine_107 : decode cX9_takeLine 107 = .ok (.iload 7, 2) := by decide +kernel
theorem dX9_takeLine_109 : decode cX9_takeLine 109 = .ok (.imul, 1) := by decide +kernel
theorem dX9_takeLine_110 : decode cX9_takeLine 110 = .ok (.iload_n 3, 1) := by decide +kernel
theorem dX9_takeLine_111 : decode cX9_takeLine 111 = .ok (.iadd, 1) := by decide +kernel
theorem dX9_takeLine_112 : decode cX9_takeLine 112 = .ok (.iaload, 1) := by decide +kernel
theorem dX9_takeLine_113 : decode cX9_takeLine 113 = .ok (.iload 6, 2) := by decide +kernel
theorem dX9_takeLine_115 : decode cX9_takeLine 115 = .ok (.imul, 1) := by decide +kernel
theorem dX9_takeLine_116 : decode cX9_takeLine 116 = .ok (.aload_n 0, 1) := by decide +kernel
theorem dX9_takeLine_117 : decode cX9_takeLine 117 = .ok (.getfield 7, 3) := by decide +kernel
theorem dX9_takeLine_120 : decode cX9_takeLine 120 = .ok (.irem, 1) := by decide +kernel
theorem dX9_takeLine_121 : decode cX9_takeLine 121 = .ok (.isub, 1) := by decide +kernel
theorem dX9_takeLine_122 : decode cX9_takeLine 122 = .ok (.aload_n 0, 1) := by decide +kernel
theorem dX9_takeLine_123 : decode cX9_takeLine 123 = .ok (.getfield 7, 3) := by decide +kernel
theorem dX9_takeLine_126 : decode cX9_takeLine 126 = .ok (.irem, 1) := by decide +kernel
theorem dX9_takeLine_127 : decode cX9_takeLine 127 = .ok (.istore 8, 2) := by decide +kernel
theorem dX9_takeLine_129 : decode cX9_takeLine 129 = .ok (.iload_n 3, 1) := by decide +kernel
theorem dX9_takeLine_130 : decode cX9_takeLine 130 = .ok (.istore 9, 2) := by decide +kernel
theorem dX9_takeLine_132 : decode cX9_takeLine 132 = .ok (.iload 9, 2) := by decide +kernel
theorem dX9_takeLine_134 : decode cX9_takeLine 134 = .ok (.iload 5, 2) := by decide +kernel
theorem dX9_takeLine_136 : decode cX9_takeLine 136 = .ok (.if_icmp .ge 61, 3) := by decide +kernel
theorem dX9_takeLine_139 : decode cX9_takeLine 139 = .ok (.iload 8, 2) := by decide +kernel
theorem dX9_takeLine_141 : decode cX9_takeLine 141 = .ok (.ifCond .le 56, 3) := by decide +kernel
theorem dX9_takeLine_144 : decode cX9_takeLine 144 = .ok (.aload_n 0, 1) := by decide +kernel
theorem dX9_takeLine_145 : decode cX9_takeLine 145 = .ok (.getfield 51, 3) := by decide +kernel
theorem dX9_takeLine_148 : decode cX9_takeLine 148 = .ok (.bipush 81, 2) := by decide +kernel
theorem dX9_takeLine_150 : decode cX9_takeLine 150 = .ok (.iload 7, 2) := by decide +kernel
theorem dX9_takeLine_152 : decode cX9_takeLine 152 = .ok (.imul, 1) := by decide +kernel
theorem dX9_takeLine_153 : decode cX9_takeLine 153 = .ok (.iload 9, 2) := by decide +kernel
theorem dX9_takeLine_155 : decode cX9_takeLine 155 = .ok (.iadd, 1) := by decide +kernel
theorem dX9_takeLine_156 : decode cX9_takeLine 156 = .ok (.aload_n 0, 1) := by decide +kernel
theorem dX9_takeLine_157 : decode cX9_takeLine 157 = .ok (.getfield 51, 3) := by decide +kernel
theorem dX9_takeLine_160 : decode cX9_takeLine 160 = .ok (.bipush 81, 2) := by decide +kernel
theorem dX9_takeLine_162 : decode cX9_takeLine 162 = .ok (.iload 7, 2) := by decide +kernel
theorem dX9_takeLine_164 : decode cX9_takeLine 164 = .ok (.imul, 1) := by decide +kernel
theorem dX9_takeLine_165 : decode cX9_takeLine 165 = .ok (.iload 9, 2) := by decide +kernel
theorem dX9_takeLine_167 : decode cX9_takeLine 167 = .ok (.iadd, 1) := by decide +kernel
theorem dX9_takeLine_168 : decode cX9_takeLine 168 = .ok (.iaload, 1) := by decide +kernel
theorem dX9_takeLine_169 : decode cX9_takeLine 169 = .ok (.iload 8, 2) := by decide +kernel
theorem dX9_takeLine_171 : decode cX9_takeLine 171 = .ok (.aload_n 0, 1) := by decide +kernel
theorem dX9_takeLine_172 : decode cX9_takeLine 172 = .ok (.getfield 51, 3) := by decide +kernel
theorem dX9_takeLine_175 : decode cX9_takeLine 175 = .ok (.bipush 81, 2) := by decide +kernel
theorem dX9_takeLine_177 : decode cX9_takeLine 177 = .ok (.iload_n 2, 1) := by decide +kernel
theorem dX9_takeLine_178 : decode cX9_takeLine 178 = .ok (.imul, 1) := by decide +kernel
theorem dX9_takeLine_179 : decode cX9_takeLine 179 = .ok (.iload 9, 2) := by decide +kernel
theorem dX9_takeLine_181 : decode cX9_takeLine 181 = .ok (.iadd, 1) := by decide +kernel
theorem dX9_takeLine_182 : decode cX9_takeLine 182 = .ok (.iaload, 1) := by decide +kernel
theorem dX9_takeLine_183 : decode cX9_takeLine 183 = .ok (.imul, 1) := by decide +kernel
theorem dX9_takeLine_184 : decode cX9_takeLine 184 = .ok (.iadd, 1) := by decide +kernel
theorem dX9_takeLine_185 : decode cX9_takeLine 185 = .ok (.aload_n 0, 1) := by decide +kernel
theorem dX9_takeLine_186 : decode cX9_takeLine 186 = .ok (.getfield 7, 3) := by decide +kernel
theorem dX9_takeLine_189 : decode cX9_takeLine 189 = .ok (.irem, 1) := by decide +kernel
theorem dX9_takeLine_190 : decode cX9_takeLine 190 = .ok (.iastore, 1) := by decide +kernel
theorem dX9_takeLine_191 : decode cX9_takeLine 191 = .ok (.iinc 9 1, 3) := by decide +kernel
theorem dX9_takeLine_194 : decode cX9_takeLine 194 = .ok (.goto (-62), 3) := by decide +kernel
theorem dX9_takeLine_197 : decode cX9_takeLine 197 = .ok (.iinc 7 1, 3) := by decide +kernel
theorem dX9_takeLine_200 : decode cX9_takeLine 200 = .ok (.goto (-110), 3) := by decide +kernel
theorem dX9_takeLine_203 : decode cX9_takeLine 203 = .ok (.return_, 1) := by decide +kernel
theorem dX9_rankBy_0 : decode cX9_rankBy 0 = .ok (.iload_n 1, 1) := by decide +kernel
theorem dX9_rankBy_1 : decode cX9_rankBy 1 = .ok (.ifCond .ne 8, 3) := by decide +kernel
theorem dX9_rankBy_4 : decode cX9_rankBy 4 = .ok (.bipush 81, 2) := by decide +kernel
theorem dX9_rankBy_6 : decode cX9_rankBy 6 = .ok (.goto 14, 3) := by decide +kernel
theorem dX9_rankBy_9 : decode cX9_rankBy 9 = .ok (.iload_n 1, 1) := by decide +kernel
theorem dX9_rankBy_10 : decode cX9_rankBy 10 = .ok (.iconst 1, 1) := by decide +kernel
theorem dX9_rankBy_11 : decode cX9_rankBy 11 = .ok (.if_icmp .ne 8, 3) := by decide +kernel
theorem dX9_rankBy_14 : decode cX9_rankBy 14 = .ok (.bipush 9, 2) := by decide +kernel
theorem dX9_rankBy_16 : decode cX9_rankBy 16 = .ok (.goto 4, 3) := by decide +kernel
theorem dX9_rankBy_19 : decode cX9_rankBy 19 = .ok (.iconst 1, 1) := by decide +kernel
theorem dX9_rankBy_20 : decode cX9_rankBy 20 = .ok (.istore_n 2, 1) := by decide +kernel
theorem dX9_rankBy_21 : decode cX9_rankBy 21 = .ok (.iload_n 1, 1) := by decide +kernel
theorem dX9_rankBy_22 : decode cX9_rankBy 22 = .ok (.ifCond .ne 8, 3) := by decide +kernel
theorem dX9_rankBy_25 : decode cX9_rankBy 25 = .ok (.bipush 9, 2) := by decide +kernel
theorem dX9_rankBy_27 : decode cX9_rankBy 27 = .ok (.goto 5, 3) := by decide +kernel
theorem dX9_rankBy_30 : decode cX9_rankBy 30 = .ok (.bipush 81, 2) := by decide +kernel
theorem dX9_rankBy_32 : decode cX9_rankBy 32 = .ok (.istore_n 3, 1) := by decide +kernel
theorem dX9_rankBy_33 : decode cX9_rankBy 33 = .ok (.iload_n 1, 1) := by decide +kernel
theorem dX9_rankBy_34 : decode cX9_rankBy 34 = .ok (.iconst 2, 1) := by decide +kernel
theorem dX9_rankBy_35 : decode cX9_rankBy 35 = .ok (.if_icmp .ne 8, 3) := by decide +kernel
theorem dX9_rankBy_38 : decode cX9_rankBy 38 = .ok (.bipush 9, 2) := by decide +kernel
theorem dX9_rankBy_40 : decode cX9_rankBy 40 = .ok (.goto 4, 3) := by decide +kernel
theorem dX9_rankBy_43 : decode cX9_rankBy 43 = .ok (.iconst 1, 1) := by decide +kernel
theorem dX9_rankBy_44 : decode cX9_rankBy 44 = .ok (.istore 4, 2) := by decide +kernel
theorem dX9_rankBy_46 : decode cX9_rankBy 46 = .ok (.iconst 0, 1) := by decide +kernel
theorem dX9_rankBy_47 : decode cX9_rankBy 47 = .ok (.istore 5, 2) := by decide +kernel
theorem dX9_rankBy_49 : decode cX9_rankBy 49 = .ok (.iload 5, 2) := by decide +kernel
theorem dX9_rankBy_51 : decode cX9_rankBy 51 = .ok (.bipush 9, 2) := by decide +kernel
theorem dX9_rankBy_53 : decode cX9_rankBy 53 = .ok (.if_icmp .ge 64, 3) := by decide +kernel
theorem dX9_rankBy_56 : decode cX9_rankBy 56 = .ok (.iconst 0, 1) := by decide +kernel
theorem dX9_rankBy_57 : decode cX9_rankBy 57 = .ok (.istore 6, 2) := by decide +kernel
theorem dX9_rankBy_59 : decode cX9_rankBy 59 = .ok (.iload 6, 2) := by decide +kernel
theorem dX9_rankBy_61 : decode cX9_rankBy 61 = .ok (.bipush 81, 2) := by decide +kernel
theorem dX9_rankBy_63 : decode cX9_rankBy 63 = .ok (.if_icmp .ge 48, 3) := by decide +kernel
theorem dX9_rankBy_66 : decode cX9_rankBy 66 = .ok (.aload_n 0, 1) := by decide +kernel
theorem dX9_rankBy_67 : decode cX9_rankBy 67 = .ok (.getfield 51, 3) := by decide +kernel
theorem dX9_rankBy_70 : decode cX9_rankBy 70 = .ok (.bipush 81, 2) := by decide +kernel
theorem dX9_rankBy_72 : decode cX9_rankBy 72 = .ok (.iload 5, 2) := by decide +kernel
theorem dX9_rankBy_74 : decode cX9_rankBy 74 = .ok (.imul, 1) := by decide +kernel
theorem dX9_rankBy_75 : decode cX9_rankBy 75 = .ok (.iload 6, 2) := by decide +kernel
theorem dX9_rankBy_77 : decode cX9_rankBy 77 = .ok (.iadd, 1) := by decide +kernel
theorem dX9_rankBy_78 : decode cX9_rankBy 78 = .ok (.aload_n 0, 1) := by decide +kernel
theorem dX9_rankBy_79 : decode cX9_rankBy 79 = .ok (.getfield 17, 3) := by decide +kernel
theorem dX9_rankBy_82 : decode cX9_rankBy 82 = .ok (.iload_n 2, 1) := by decide +kernel
theorem dX9_rankBy_83 : decode cX9_rankBy 83 = .ok (.iload 5, 2) := by decide +kernel
theorem dX9_rankBy_85 : decode cX9_rankBy 85 = .ok (.imul, 1) := by decide +kernel
theorem dX9_rankBy_86 : decode cX9_rankBy 86 = .ok (.iload_n 3, 1) := by decide +kernel
theorem dX9_rankBy_87 : decode cX9_rankBy 87 = .ok (.iload 6, 2) := by decide +kernel
theorem dX9_rankBy_89 : decode cX9_rankBy 89 = .ok (.bipush 9, 2) := by decide +kernel
theorem dX9_rankBy_91 : decode cX9_rankBy 91 = .ok (.idiv, 1) := by decide +kernel
theorem dX9_rankBy_92 : decode cX9_rankBy 92 = .ok (.imul, 1) := by decide +kernel
theorem dX9_rankBy_93 : decode cX9_rankBy 93 = .ok (.iadd, 1) := by decide +kernel
theorem dX9_rankBy_94 : decode cX9_rankBy 94 = .ok (.iload 4, 2) := by decide +kernel
theorem dX9_rankBy_96 : decode cX9_rankBy 96 = .ok (.iload 6, 2) := by decide +kernel
theorem dX9_rankBy_98 : decode cX9_rankBy 98 = .ok (.bipush 9, 2) := by decide +kernel
theorem dX9_rankBy_100 : decode cX9_rankBy 100 = .ok (.irem, 1) := by decide +kernel
theorem dX9_rankBy_101 : decode cX9_rankBy 101 = .ok (.imul, 1) := by decide +kernel
theorem dX9_rankBy_102 : decode cX9_rankBy 102 = .ok (.iadd, 1) := by decide +kernel
theorem dX9_rankBy_103 : decode cX9_rankBy 103 = .ok (.iaload, 1) := by decide +kernel
theorem dX9_rankBy_104 : decode cX9_rankBy 104 = .ok (.iastore, 1) := by decide +kernel
theorem dX9_rankBy_105 : decode cX9_rankBy 105 = .ok (.iinc 6 1, 3) := by decide +kernel
theorem dX9_rankBy_108 : decode cX9_rankBy 108 = .ok (.goto (-49), 3) := by decide +kernel
theorem dX9_rankBy_111 : decode cX9_rankBy 111 = .ok (.iinc 5 1, 3) := by decide +kernel
theorem dX9_rankBy_114 : decode cX9_rankBy 114 = .ok (.goto (-65), 3) := by decide +kernel
theorem dX9_rankBy_117 : decode cX9_rankBy 117 = .ok (.aload_n 0, 1) := by decide +kernel
theorem dX9_rankBy_118 : decode cX9_rankBy 118 = .ok (.aload_n 0, 1) := by decide +kernel
theorem dX9_rankBy_119 : decode cX9_rankBy 119 = .ok (.getfield 13, 3) := by decide +kernel
theorem dX9_rankBy_122 : decode cX9_rankBy 122 = .ok (.iload_n 1, 1) := by decide +kernel
theorem dX9_rankBy_123 : decode cX9_rankBy 123 = .ok (.iaload, 1) := by decide +kernel
theorem dX9_rankBy_124 : decode cX9_rankBy 124 = .ok (.bipush 81, 2) := by decide +kernel
theorem dX9_rankBy_126 : decode cX9_rankBy 126 = .ok (.invokevirtual 185, 3) := by decide +kernel
theorem dX9_rankBy_129 : decode cX9_rankBy 129 = .ok (.ireturn, 1) := by decide +kernel
theorem dX9_rank_0 : decode cX9_rank 0 = .ok (.iload_n 1, 1) := by decide +kernel
theorem dX9_rank_1 : decode cX9_rank 1 = .ok (.i2l, 1) := by decide +kernel
theorem dX9_rank_2 : decode cX9_rank 2 = .ok (.lconst 0, 1) := by decide +kernel
theorem dX9_rank_3 : decode cX9_rank 3 = .ok (.ldc2_w 188, 3) := by decide +kernel
theorem dX9_rank_6 : decode cX9_rank 6 = .ok (.invokestatic 97, 3) := by decide +kernel
theorem dX9_rank_9 : decode cX9_rank 9 = .ok (.ifCond .ne 5, 3) := by decide +kernel
theorem dX9_rank_12 : decode cX9_rank 12 = .ok (.iconst (-1), 1) := by decide +kernel
theorem dX9_rank_13 : decode cX9_rank 13 = .ok (.ireturn, 1) := by decide +kernel
theorem dX9_rank_14 : decode cX9_rank 14 = .ok (.iload_n 1, 1) := by decide +kernel
theorem dX9_rank_15 : decode cX9_rank 15 = .ok (.iconst 3, 1) := by decide +kernel
theorem dX9_rank_16 : decode cX9_rank 16 = .ok (.if_icmp .ge 9, 3) := by decide +kernel
theorem dX9_rank_19 : decode cX9_rank 19 = .ok (.aload_n 0, 1) := by decide +kernel
theorem dX9_rank_20 : decode cX9_rank 20 = .ok (.iload_n 1, 1) := by decide +kernel
theorem dX9_rank_21 : decode cX9_rank 21 = .ok (.invokevirtual 190, 3) := by decide +kernel
theorem dX9_rank_24 : decode cX9_rank 24 = .ok (.ireturn, 1) := by decide +kernel
theorem dX9_rank_25 : decode cX9_rank 25 = .ok (.aload_n 0, 1) := by decide +kernel
theorem dX9_rank_26 : decode cX9_rank 26 = .ok (.iconst 0, 1) := by decide +kernel
theorem dX9_rank_27 : decode cX9_rank 27 = .ok (.invokevirtual 190, 3) := by decide +kernel
theorem dX9_rank_30 : decode cX9_rank 30 = .ok (.istore_n 2, 1) := by decide +kernel
theorem dX9_rank_31 : decode cX9_rank 31 = .ok (.iload_n 2, 1) := by decide +kernel
theorem dX9_rank_32 : decode cX9_rank 32 = .ok (.aload_n 0, 1) := by decide +kernel
theorem dX9_rank_33 : decode cX9_rank 33 = .ok (.iconst 1, 1) := by decide +kernel
theorem dX9_rank_34 : decode cX9_rank 34 = .ok (.invokevirtual 190, 3) := by decide +kernel
theorem dX9_rank_37 : decode cX9_rank 37 = .ok (.invokestatic 193, 3) := by decide +kernel
theorem dX9_rank_40 : decode cX9_rank 40 = .ok (.istore_n 2, 1) := by decide +kernel
theorem dX9_rank_41 : decode cX9_rank 41 = .ok (.iload_n 2, 1) := by decide +kernel
theorem dX9_rank_42 : decode cX9_rank 42 = .ok (.aload_n 0, 1) := by decide +kernel
theorem dX9_rank_43 : decode cX9_rank 43 = .ok (.iconst 2, 1) := by decide +kernel
theorem dX9_rank_44 : decode cX9_rank 44 = .ok (.invokevirtual 190, 3) := by decide +kernel
theorem dX9_rank_47 : decode cX9_rank 47 = .ok (.invokestatic 193, 3) := by decide +kernel
theorem dX9_rank_50 : decode cX9_rank 50 = .ok (.ireturn, 1) := by decide +kernel
theorem dX9_ones_0 : decode cX9_ones 0 = .ok (.aload_n 0, 1) := by decide +kernel
theorem dX9_ones_1 : decode cX9_ones 1 = .ok (.iload_n 1, 1) := by decide +kernel
theorem dX9_ones_2 : decode cX9_ones 2 = .ok (.invokevirtual 115, 3) := by decide +kernel
theorem dX9_ones_5 : decode cX9_ones 5 = .ok (.i2l, 1) := by decide +kernel
theorem dX9_ones_6 : decode cX9_ones 6 = .ok (.lconst 1, 1) := by decide +kernel
theorem dX9_ones_7 : decode cX9_ones 7 = .ok (.lsub, 1) := by decide +kernel
theorem dX9_ones_8 : decode cX9_ones 8 = .ok (.aload_n 0, 1) := by decide +kernel
theorem dX9_ones_9 : decode cX9_ones 9 = .ok (.getfield 7, 3) := by decide +kernel
theorem dX9_ones_12 : decode cX9_ones 12 = .ok (.i2l, 1) := by decide +kernel
theorem dX9_ones_13 : decode cX9_ones 13 = .ok (.lconst 1, 1) := by decide +kernel
theorem dX9_ones_14 : decode cX9_ones 14 = .ok (.lsub, 1) := by decide +kernel
theorem dX9_ones_15 : decode cX9_ones 15 = .ok (.ldiv, 1) := by decide +kernel
theorem dX9_ones_16 : decode cX9_ones 16 = .ok (.lreturn, 1) := by decide +kernel
theorem dX9_isOne_0 : decode cX9_isOne 0 = .ok (.iload_n 1, 1) := by decide +kernel
theorem dX9_isOne_1 : decode cX9_isOne 1 = .ok (.istore_n 2, 1) := by decide +kernel
theorem dX9_isOne_2 : decode cX9_isOne 2 = .ok (.iload_n 2, 1) := by decide +kernel
theorem dX9_isOne_3 : decode cX9_isOne 3 = .ok (.ifCond .le 22, 3) := by decide +kernel
theorem dX9_isOne_6 : decode cX9_isOne 6 = .ok (.iload_n 2, 1) := by decide +kernel
theorem dX9_isOne_7 : decode cX9_isOne 7 = .ok (.aload_n 0, 1) := by decide +kernel
theorem dX9_isOne_8 : decode cX9_isOne 8 = .ok (.getfield 7, 3) := by decide +kernel
theorem dX9_isOne_11 : decode cX9_isOne 11 = .ok (.irem, 1) := by decide +kernel
end
section
theorem dX9_isOne_12 : decode cX9_isOne 12 = .ok (.ifCond .ne 13, 3) := by decide +kernel
theorem dX9_isOne_15 : decode cX9_isOne 15 = .ok (.iload_n 2, 1) := by decide +kernel
theorem dX9_isOne_16 : decode cX9_isOne 16 = .ok (.aload_n 0, 1) := by decide +kernel
theorem dX9_isOne_17 : decode cX9_isOne 17 = .ok (.getfield 7, 3) := by decide +kernel
theorem dX9_isOne_20 : decode cX9_isOne 20 = .ok (.idiv, 1) := by decide +kernel
theorem dX9_isOne_21 : decode cX9_isOne 21 = .ok (.istore_n 2, 1) := by decide +kernel
theorem dX9_isOne_22 : decode cX9_isOne 22 = .ok (.goto (-20), 3) := by decide +kernel
theorem dX9_isOne_25 : decode cX9_isOne 25 = .ok (.iload_n 2, 1) := by decide +kernel
theorem dX9_isOne_26 : decode cX9_isOne 26 = .ok (.aload_n 0, 1) := by decide +kernel
theorem dX9_isOne_27 : decode cX9_isOne 27 = .ok (.getfield 7, 3) := by decide +kernel
theorem dX9_isOne_30 : decode cX9_isOne 30 = .ok (.irem, 1) := by decide +kernel
theorem dX9_isOne_31 : decode cX9_isOne 31 = .ok (.iconst 1, 1) := by decide +kernel
theorem dX9_isOne_32 : decode cX9_isOne 32 = .ok (.if_icmp .ne 7, 3) := by decide +kernel
theorem dX9_isOne_35 : decode cX9_isOne 35 = .ok (.iconst 1, 1) := by decide +kernel
theorem dX9_isOne_36 : decode cX9_isOne 36 = .ok (.goto 4, 3) := by decide +kernel
theorem dX9_isOne_39 : decode cX9_isOne 39 = .ok (.iconst 0, 1) := by decide +kernel
theorem dX9_isOne_40 : decode cX9_isOne 40 = .ok (.ireturn, 1) := by decide +kernel
theorem dX9_findPairs_0 : decode cX9_findPairs 0 = .ok (.aload_n 0, 1) := by decide +kernel
theorem dX9_findPairs_1 : decode cX9_findPairs 1 = .ok (.iconst 0, 1) := by decide +kernel
theorem dX9_findPairs_2 : decode cX9_findPairs 2 = .ok (.putfield 198, 3) := by decide +kernel
theorem dX9_findPairs_5 : decode cX9_findPairs 5 = .ok (.iconst 0, 1) := by decide +kernel
theorem dX9_findPairs_6 : decode cX9_findPairs 6 = .ok (.istore_n 1, 1) := by decide +kernel
theorem dX9_findPairs_7 : decode cX9_findPairs 7 = .ok (.iload_n 1, 1) := by decide +kernel
theorem dX9_findPairs_8 : decode cX9_findPairs 8 = .ok (.aload_n 0, 1) := by decide +kernel
theorem dX9_findPairs_9 : decode cX9_findPairs 9 = .ok (.iconst 0, 1) := by decide +kernel
theorem dX9_findPairs_10 : decode cX9_findPairs 10 = .ok (.invokevirtual 115, 3) := by decide +kernel
theorem dX9_findPairs_13 : decode cX9_findPairs 13 = .ok (.if_icmp .ge 72, 3) := by decide +kernel
theorem dX9_findPairs_16 : decode cX9_findPairs 16 = .ok (.iconst 0, 1) := by decide +kernel
theorem dX9_findPairs_17 : decode cX9_findPairs 17 = .ok (.istore_n 2, 1) := by decide +kernel
theorem dX9_findPairs_18 : decode cX9_findPairs 18 = .ok (.iload_n 2, 1) := by decide +kernel
theorem dX9_findPairs_19 : decode cX9_findPairs 19 = .ok (.aload_n 0, 1) := by decide +kernel
theorem dX9_findPairs_20 : decode cX9_findPairs 20 = .ok (.iconst 1, 1) := by decide +kernel
theorem dX9_findPairs_21 : decode cX9_findPairs 21 = .ok (.invokevirtual 115, 3) := by decide +kernel
theorem dX9_findPairs_24 : decode cX9_findPairs 24 = .ok (.if_icmp .ge 55, 3) := by decide +kernel
theorem dX9_findPairs_27 : decode cX9_findPairs 27 = .ok (.aload_n 0, 1) := by decide +kernel
theorem dX9_findPairs_28 : decode cX9_findPairs 28 = .ok (.iload_n 1, 1) := by decide +kernel
theorem dX9_findPairs_29 : decode cX9_findPairs 29 = .ok (.invokevirtual 201, 3) := by decide +kernel
theorem dX9_findPairs_32 : decode cX9_findPairs 32 = .ok (.ifCond .eq 47, 3) := by decide +kernel
theorem dX9_findPairs_35 : decode cX9_findPairs 35 = .ok (.aload_n 0, 1) := by decide +kernel
theorem dX9_findPairs_36 : decode cX9_findPairs 36 = .ok (.iload_n 2, 1) := by decide +kernel
theorem dX9_findPairs_37 : decode cX9_findPairs 37 = .ok (.invokevirtual 201, 3) := by decide +kernel
theorem dX9_findPairs_40 : decode cX9_findPairs 40 = .ok (.ifCond .eq 33, 3) := by decide +kernel
theorem dX9_findPairs_43 : decode cX9_findPairs 43 = .ok (.aload_n 0, 1) := by decide +kernel
theorem dX9_findPairs_44 : decode cX9_findPairs 44 = .ok (.getfield 54, 3) := by decide +kernel
theorem dX9_findPairs_47 : decode cX9_findPairs 47 = .ok (.aload_n 0, 1) := by decide +kernel
theorem dX9_findPairs_48 : decode cX9_findPairs 48 = .ok (.getfield 198, 3) := by decide +kernel
theorem dX9_findPairs_51 : decode cX9_findPairs 51 = .ok (.iload_n 1, 1) := by decide +kernel
theorem dX9_findPairs_52 : decode cX9_findPairs 52 = .ok (.iastore, 1) := by decide +kernel
theorem dX9_findPairs_53 : decode cX9_findPairs 53 = .ok (.aload_n 0, 1) := by decide +kernel
theorem dX9_findPairs_54 : decode cX9_findPairs 54 = .ok (.getfield 57, 3) := by decide +kernel
theorem dX9_findPairs_57 : decode cX9_findPairs 57 = .ok (.aload_n 0, 1) := by decide +kernel
theorem dX9_findPairs_58 : decode cX9_findPairs 58 = .ok (.getfield 198, 3) := by decide +kernel
theorem dX9_findPairs_61 : decode cX9_findPairs 61 = .ok (.iload_n 2, 1) := by decide +kernel
theorem dX9_findPairs_62 : decode cX9_findPairs 62 = .ok (.iastore, 1) := by decide +kernel
theorem dX9_findPairs_63 : decode cX9_findPairs 63 = .ok (.aload_n 0, 1) := by decide +kernel
theorem dX9_findPairs_64 : decode cX9_findPairs 64 = .ok (.dup, 1) := by decide +kernel
theorem dX9_findPairs_65 : decode cX9_findPairs 65 = .ok (.getfield 198, 3) := by decide +kernel
theorem dX9_findPairs_68 : decode cX9_findPairs 68 = .ok (.iconst 1, 1) := by decide +kernel
theorem dX9_findPairs_69 : decode cX9_findPairs 69 = .ok (.iadd, 1) := by decide +kernel
theorem dX9_findPairs_70 : decode cX9_findPairs 70 = .ok (.putfield 198, 3) := by decide +kernel
theorem dX9_findPairs_73 : decode cX9_findPairs 73 = .ok (.iinc 2 1, 3) := by decide +kernel
theorem dX9_findPairs_76 : decode cX9_findPairs 76 = .ok (.goto (-58), 3) := by decide +kernel
theorem dX9_findPairs_79 : decode cX9_findPairs 79 = .ok (.iinc 1 1, 3) := by decide +kernel
theorem dX9_findPairs_82 : decode cX9_findPairs 82 = .ok (.goto (-75), 3) := by decide +kernel
theorem dX9_findPairs_85 : decode cX9_findPairs 85 = .ok (.return_, 1) := by decide +kernel
theorem dX9_digit_0 : decode cX9_digit 0 = .ok (.iload_n 1, 1) := by decide +kernel
theorem dX9_digit_1 : decode cX9_digit 1 = .ok (.istore_n 3, 1) := by decide +kernel
theorem dX9_digit_2 : decode cX9_digit 2 = .ok (.iconst 0, 1) := by decide +kernel
theorem dX9_digit_3 : decode cX9_digit 3 = .ok (.istore 4, 2) := by decide +kernel
theorem dX9_digit_5 : decode cX9_digit 5 = .ok (.iload 4, 2) := by decide +kernel
theorem dX9_digit_7 : decode cX9_digit 7 = .ok (.iload_n 2, 1) := by decide +kernel
theorem dX9_digit_8 : decode cX9_digit 8 = .ok (.if_icmp .ge 16, 3) := by decide +kernel
theorem dX9_digit_11 : decode cX9_digit 11 = .ok (.iload_n 3, 1) := by decide +kernel
theorem dX9_digit_12 : decode cX9_digit 12 = .ok (.aload_n 0, 1) := by decide +kernel
theorem dX9_digit_13 : decode cX9_digit 13 = .ok (.getfield 7, 3) := by decide +kernel
theorem dX9_digit_16 : decode cX9_digit 16 = .ok (.idiv, 1) := by decide +kernel
theorem dX9_digit_17 : decode cX9_digit 17 = .ok (.istore_n 3, 1) := by decide +kernel
theorem dX9_digit_18 : decode cX9_digit 18 = .ok (.iinc 4 1, 3) := by decide +kernel
theorem dX9_digit_21 : decode cX9_digit 21 = .ok (.goto (-16), 3) := by decide +kernel
theorem dX9_digit_24 : decode cX9_digit 24 = .ok (.iload_n 3, 1) := by decide +kernel
theorem dX9_digit_25 : decode cX9_digit 25 = .ok (.aload_n 0, 1) := by decide +kernel
theorem dX9_digit_26 : decode cX9_digit 26 = .ok (.getfield 7, 3) := by decide +kernel
theorem dX9_digit_29 : decode cX9_digit 29 = .ok (.irem, 1) := by decide +kernel
theorem dX9_digit_30 : decode cX9_digit 30 = .ok (.ireturn, 1) := by decide +kernel
theorem dX9_lay_0 : decode cX9_lay 0 = .ok (.bipush 81, 2) := by decide +kernel
theorem dX9_lay_2 : decode cX9_lay 2 = .ok (.iload_n 1, 1) := by decide +kernel
theorem dX9_lay_3 : decode cX9_lay 3 = .ok (.imul, 1) := by decide +kernel
theorem dX9_lay_4 : decode cX9_lay 4 = .ok (.istore_n 2, 1) := by decide +kernel
theorem dX9_lay_5 : decode cX9_lay 5 = .ok (.iconst 0, 1) := by decide +kernel
theorem dX9_lay_6 : decode cX9_lay 6 = .ok (.istore_n 3, 1) := by decide +kernel
theorem dX9_lay_7 : decode cX9_lay 7 = .ok (.iload_n 3, 1) := by decide +kernel
theorem dX9_lay_8 : decode cX9_lay 8 = .ok (.bipush 81, 2) := by decide +kernel
theorem dX9_lay_10 : decode cX9_lay 10 = .ok (.if_icmp .ge 61, 3) := by decide +kernel
theorem dX9_lay_13 : decode cX9_lay 13 = .ok (.aload_n 0, 1) := by decide +kernel
theorem dX9_lay_14 : decode cX9_lay 14 = .ok (.getfield 66, 3) := by decide +kernel
theorem dX9_lay_17 : decode cX9_lay 17 = .ok (.iload_n 2, 1) := by decide +kernel
theorem dX9_lay_18 : decode cX9_lay 18 = .ok (.iload_n 3, 1) := by decide +kernel
theorem dX9_lay_19 : decode cX9_lay 19 = .ok (.iadd, 1) := by decide +kernel
theorem dX9_lay_20 : decode cX9_lay 20 = .ok (.aload_n 0, 1) := by decide +kernel
theorem dX9_lay_21 : decode cX9_lay 21 = .ok (.aload_n 0, 1) := by decide +kernel
theorem dX9_lay_22 : decode cX9_lay 22 = .ok (.getfield 54, 3) := by decide +kernel
theorem dX9_lay_25 : decode cX9_lay 25 = .ok (.aload_n 0, 1) := by decide +kernel
theorem dX9_lay_26 : decode cX9_lay 26 = .ok (.getfield 60, 3) := by decide +kernel
theorem dX9_lay_29 : decode cX9_lay 29 = .ok (.iload_n 1, 1) := by decide +kernel
theorem dX9_lay_30 : decode cX9_lay 30 = .ok (.iaload, 1) := by decide +kernel
theorem dX9_lay_31 : decode cX9_lay 31 = .ok (.iaload, 1) := by decide +kernel
theorem dX9_lay_32 : decode cX9_lay 32 = .ok (.iload_n 3, 1) := by decide +kernel
theorem dX9_lay_33 : decode cX9_lay 33 = .ok (.bipush 9, 2) := by decide +kernel
theorem dX9_lay_35 : decode cX9_lay 35 = .ok (.idiv, 1) := by decide +kernel
theorem dX9_lay_36 : decode cX9_lay 36 = .ok (.invokevirtual 204, 3) := by decide +kernel
theorem dX9_lay_39 : decode cX9_lay 39 = .ok (.aload_n 0, 1) := by decide +kernel
theorem dX9_lay_40 : decode cX9_lay 40 = .ok (.aload_n 0, 1) := by decide +kernel
theorem dX9_lay_41 : decode cX9_lay 41 = .ok (.getfield 57, 3) := by decide +kernel
theorem dX9_lay_44 : decode cX9_lay 44 = .ok (.aload_n 0, 1) := by decide +kernel
theorem dX9_lay_45 : decode cX9_lay 45 = .ok (.getfield 60, 3) := by decide +kernel
theorem dX9_lay_48 : decode cX9_lay 48 = .ok (.iload_n 1, 1) := by decide +kernel
theorem dX9_lay_49 : decode cX9_lay 49 = .ok (.iaload, 1) := by decide +kernel
theorem dX9_lay_50 : decode cX9_lay 50 = .ok (.iaload, 1) := by decide +kernel
theorem dX9_lay_51 : decode cX9_lay 51 = .ok (.iload_n 3, 1) := by decide +kernel
theorem dX9_lay_52 : decode cX9_lay 52 = .ok (.bipush 9, 2) := by decide +kernel
theorem dX9_lay_54 : decode cX9_lay 54 = .ok (.irem, 1) := by decide +kernel
theorem dX9_lay_55 : decode cX9_lay 55 = .ok (.invokevirtual 204, 3) := by decide +kernel
theorem dX9_lay_58 : decode cX9_lay 58 = .ok (.imul, 1) := by decide +kernel
theorem dX9_lay_59 : decode cX9_lay 59 = .ok (.aload_n 0, 1) := by decide +kernel
theorem dX9_lay_60 : decode cX9_lay 60 = .ok (.getfield 7, 3) := by decide +kernel
theorem dX9_lay_63 : decode cX9_lay 63 = .ok (.irem, 1) := by decide +kernel
theorem dX9_lay_64 : decode cX9_lay 64 = .ok (.iastore, 1) := by decide +kernel
theorem dX9_lay_65 : decode cX9_lay 65 = .ok (.iinc 3 1, 3) := by decide +kernel
theorem dX9_lay_68 : decode cX9_lay 68 = .ok (.goto (-61), 3) := by decide +kernel
theorem dX9_lay_71 : decode cX9_lay 71 = .ok (.iconst 0, 1) := by decide +kernel
theorem dX9_lay_72 : decode cX9_lay 72 = .ok (.istore_n 3, 1) := by decide +kernel
theorem dX9_lay_73 : decode cX9_lay 73 = .ok (.iload_n 3, 1) := by decide +kernel
theorem dX9_lay_74 : decode cX9_lay 74 = .ok (.iload_n 1, 1) := by decide +kernel
theorem dX9_lay_75 : decode cX9_lay 75 = .ok (.if_icmp .ge 94, 3) := by decide +kernel
theorem dX9_lay_78 : decode cX9_lay 78 = .ok (.aload_n 0, 1) := by decide +kernel
theorem dX9_lay_79 : decode cX9_lay 79 = .ok (.getfield 7, 3) := by decide +kernel
theorem dX9_lay_82 : decode cX9_lay 82 = .ok (.aload_n 0, 1) := by decide +kernel
theorem dX9_lay_83 : decode cX9_lay 83 = .ok (.getfield 66, 3) := by decide +kernel
theorem dX9_lay_86 : decode cX9_lay 86 = .ok (.iload_n 2, 1) := by decide +kernel
theorem dX9_lay_87 : decode cX9_lay 87 = .ok (.aload_n 0, 1) := by decide +kernel
theorem dX9_lay_88 : decode cX9_lay 88 = .ok (.getfield 69, 3) := by decide +kernel
theorem dX9_lay_91 : decode cX9_lay 91 = .ok (.iload_n 3, 1) := by decide +kernel
theorem dX9_lay_92 : decode cX9_lay 92 = .ok (.iaload, 1) := by decide +kernel
theorem dX9_lay_93 : decode cX9_lay 93 = .ok (.iadd, 1) := by decide +kernel
theorem dX9_lay_94 : decode cX9_lay 94 = .ok (.iaload, 1) := by decide +kernel
theorem dX9_lay_95 : decode cX9_lay 95 = .ok (.isub, 1) := by decide +kernel
theorem dX9_lay_96 : decode cX9_lay 96 = .ok (.aload_n 0, 1) := by decide +kernel
theorem dX9_lay_97 : decode cX9_lay 97 = .ok (.getfield 7, 3) := by decide +kernel
theorem dX9_lay_100 : decode cX9_lay 100 = .ok (.irem, 1) := by decide +kernel
theorem dX9_lay_101 : decode cX9_lay 101 = .ok (.istore 4, 2) := by decide +kernel
theorem dX9_lay_103 : decode cX9_lay 103 = .ok (.iconst 0, 1) := by decide +kernel
theorem dX9_lay_104 : decode cX9_lay 104 = .ok (.istore 5, 2) := by decide +kernel
theorem dX9_lay_106 : decode cX9_lay 106 = .ok (.iload 5, 2) := by decide +kernel
theorem dX9_lay_108 : decode cX9_lay 108 = .ok (.bipush 81, 2) := by decide +kernel
theorem dX9_lay_110 : decode cX9_lay 110 = .ok (.if_icmp .ge 53, 3) := by decide +kernel
theorem dX9_lay_113 : decode cX9_lay 113 = .ok (.iload 4, 2) := by decide +kernel
theorem dX9_lay_115 : decode cX9_lay 115 = .ok (.ifCond .le 48, 3) := by decide +kernel
theorem dX9_lay_118 : decode cX9_lay 118 = .ok (.aload_n 0, 1) := by decide +kernel
theorem dX9_lay_119 : decode cX9_lay 119 = .ok (.getfield 66, 3) := by decide +kernel
theorem dX9_lay_122 : decode cX9_lay 122 = .ok (.iload_n 2, 1) := by decide +kernel
theorem dX9_lay_123 : decode cX9_lay 123 = .ok (.iload 5, 2) := by decide +kernel
theorem dX9_lay_125 : decode cX9_lay 125 = .ok (.iadd, 1) := by decide +kernel
theorem dX9_lay_126 : decode cX9_lay 126 = .ok (.aload_n 0, 1) := by decide +kernel
theorem dX9_lay_127 : decode cX9_lay 127 = .ok (.getfield 66, 3) := by decide +kernel
theorem dX9_lay_130 : decode cX9_lay 130 = .ok (.iload_n 2, 1) := by decide +kernel
theorem dX9_lay_131 : decode cX9_lay 131 = .ok (.iload 5, 2) := by decide +kernel
theorem dX9_lay_133 : decode cX9_lay 133 = .ok (.iadd, 1) := by decide +kernel
theorem dX9_lay_134 : decode cX9_lay 134 = .ok (.iaload, 1) := by decide +kernel
theorem dX9_lay_135 : decode cX9_lay 135 = .ok (.iload 4, 2) := by decide +kernel
theorem dX9_lay_137 : decode cX9_lay 137 = .ok (.aload_n 0, 1) := by decide +kernel
theorem dX9_lay_138 : decode cX9_lay 138 = .ok (.getfield 66, 3) := by decide +kernel
theorem dX9_lay_141 : decode cX9_lay 141 = .ok (.bipush 81, 2) := by decide +kernel
theorem dX9_lay_143 : decode cX9_lay 143 = .ok (.iload_n 3, 1) := by decide +kernel
theorem dX9_lay_144 : decode cX9_lay 144 = .ok (.imul, 1) := by decide +kernel
theorem dX9_lay_145 : decode cX9_lay 145 = .ok (.iload 5, 2) := by decide +kernel
theorem dX9_lay_147 : decode cX9_lay 147 = .ok (.iadd, 1) := by decide +kernel
theorem dX9_lay_148 : decode cX9_lay 148 = .ok (.iaload, 1) := by decide +kernel
theorem dX9_lay_149 : decode cX9_lay 149 = .ok (.imul, 1) := by decide +kernel
theorem dX9_lay_150 : decode cX9_lay 150 = .ok (.iadd, 1) := by decide +kernel
theorem dX9_lay_151 : decode cX9_lay 151 = .ok (.aload_n 0, 1) := by decide +kernel
theorem dX9_lay_152 : decode cX9_lay 152 = .ok (.getfield 7, 3) := by decide +kernel
theorem dX9_lay_155 : decode cX9_lay 155 = .ok (.irem, 1) := by decide +kernel
theorem dX9_lay_156 : decode cX9_lay 156 = .ok (.iastore, 1) := by decide +kernel
theorem dX9_lay_157 : decode cX9_lay 157 = .ok (.iinc 5 1, 3) := by decide +kernel
theorem dX9_lay_160 : decode cX9_lay 160 = .ok (.goto (-54), 3) := by decide +kernel
theorem dX9_lay_163 : decode cX9_lay 163 = .ok (.iinc 3 1, 3) := by decide +kernel
theorem dX9_lay_166 : decode cX9_lay 166 = .ok (.goto (-93), 3) := by decide +kernel
theorem dX9_lay_169 : decode cX9_lay 169 = .ok (.iconst 0, 1) := by decide +kernel
theorem dX9_lay_170 : decode cX9_lay 170 = .ok (.istore_n 3, 1) := by decide +kernel
theorem dX9_lay_171 : decode cX9_lay 171 = .ok (.iload_n 3, 1) := by decide +kernel
theorem dX9_lay_172 : decode cX9_lay 172 = .ok (.bipush 81, 2) := by decide +kernel
theorem dX9_lay_174 : decode cX9_lay 174 = .ok (.if_icmp .ge 20, 3) := by decide +kernel
theorem dX9_lay_177 : decode cX9_lay 177 = .ok (.aload_n 0, 1) := by decide +kernel
theorem dX9_lay_178 : decode cX9_lay 178 = .ok (.getfield 66, 3) := by decide +kernel
theorem dX9_lay_181 : decode cX9_lay 181 = .ok (.iload_n 2, 1) := by decide +kernel
theorem dX9_lay_182 : decode cX9_lay 182 = .ok (.iload_n 3, 1) := by decide +kernel
theorem dX9_lay_183 : decode cX9_lay 183 = .ok (.iadd, 1) := by decide +kernel
theorem dX9_lay_184 : decode cX9_lay 184 = .ok (.iaload, 1) := by decide +kernel
theorem dX9_lay_185 : decode cX9_lay 185 = .ok (.ifCond .ne 9, 3) := by decide +kernel
theorem dX9_lay_188 : decode cX9_lay 188 = .ok (.iinc 3 1, 3) := by decide +kernel
theorem dX9_lay_191 : decode cX9_lay 191 = .ok (.goto (-20), 3) := by decide +kernel
theorem dX9_lay_194 : decode cX9_lay 194 = .ok (.iload_n 3, 1) := by decide +kernel
theorem dX9_lay_195 : decode cX9_lay 195 = .ok (.bipush 81, 2) := by decide +kernel
theorem dX9_lay_197 : decode cX9_lay 197 = .ok (.if_icmp .ne 5, 3) := by decide +kernel
theorem dX9_lay_200 : decode cX9_lay 200 = .ok (.iconst 0, 1) := by decide +kernel
theorem dX9_lay_201 : decode cX9_lay 201 = .ok (.ireturn, 1) := by decide +kernel
theorem dX9_lay_202 : decode cX9_lay 202 = .ok (.aload_n 0, 1) := by decide +kernel
theorem dX9_lay_203 : decode cX9_lay 203 = .ok (.getfield 69, 3) := by decide +kernel
theorem dX9_lay_206 : decode cX9_lay 206 = .ok (.iload_n 1, 1) := by decide +kernel
theorem dX9_lay_207 : decode cX9_lay 207 = .ok (.iload_n 3, 1) := by decide +kernel
theorem dX9_lay_208 : decode cX9_lay 208 = .ok (.iastore, 1) := by decide +kernel
theorem dX9_lay_209 : decode cX9_lay 209 = .ok (.aload_n 0, 1) := by decide +kernel
theorem dX9_lay_210 : decode cX9_lay 210 = .ok (.aload_n 0, 1) := by decide +kernel
theorem dX9_lay_211 : decode cX9_lay 211 = .ok (.getfield 66, 3) := by decide +kernel
theorem dX9_lay_214 : decode cX9_lay 214 = .ok (.iload_n 2, 1) := by decide +kernel
theorem dX9_lay_215 : decode cX9_lay 215 = .ok (.iload_n 3, 1) := by decide +kernel
theorem dX9_lay_216 : decode cX9_lay 216 = .ok (.iadd, 1) := by decide +kernel
theorem dX9_lay_217 : decode cX9_lay 217 = .ok (.iaload, 1) := by decide +kernel
theorem dX9_lay_218 : decode cX9_lay 218 = .ok (.invokevirtual 147, 3) := by decide +kernel
theorem dX9_lay_221 : decode cX9_lay 221 = .ok (.istore 4, 2) := by decide +kernel
theorem dX9_lay_223 : decode cX9_lay 223 = .ok (.iconst 0, 1) := by decide +kernel
theorem dX9_lay_224 : decode cX9_lay 224 = .ok (.istore 5, 2) := by decide +kernel
theorem dX9_lay_226 : decode cX9_lay 226 = .ok (.iload 5, 2) := by decide +kernel
theorem dX9_lay_228 : decode cX9_lay 228 = .ok (.bipush 81, 2) := by decide +kernel
theorem dX9_lay_230 : decode cX9_lay 230 = .ok (.if_icmp .ge 35, 3) := by decide +kernel
theorem dX9_lay_233 : decode cX9_lay 233 = .ok (.aload_n 0, 1) := by decide +kernel
theorem dX9_lay_234 : decode cX9_lay 234 = .ok (.getfield 66, 3) := by decide +kernel
theorem dX9_lay_237 : decode cX9_lay 237 = .ok (.iload_n 2, 1) := by decide +kernel
theorem dX9_lay_238 : decode cX9_lay 238 = .ok (.iload 5, 2) := by decide +kernel
theorem dX9_lay_240 : decode cX9_lay 240 = .ok (.iadd, 1) := by decide +kernel
theorem dX9_lay_241 : decode cX9_lay 241 = .ok (.aload_n 0, 1) := by decide +kernel
theorem dX9_lay_242 : decode cX9_lay 242 = .ok (.getfield 66, 3) := by decide +kernel
theorem dX9_lay_245 : decode cX9_lay 245 = .ok (.iload_n 2, 1) := by decide +kernel
theorem dX9_lay_246 : decode cX9_lay 246 = .ok (.iload 5, 2) := by decide +kernel
theorem dX9_lay_248 : decode cX9_lay 248 = .ok (.iadd, 1) := by decide +kernel
theorem dX9_lay_249 : decode cX9_lay 249 = .ok (.iaload, 1) := by decide +kernel
theorem dX9_lay_250 : decode cX9_lay 250 = .ok (.iload 4, 2) := by decide +kernel
theorem dX9_lay_252 : decode cX9_lay 252 = .ok (.imul, 1) := by decide +kernel
theorem dX9_lay_253 : decode cX9_lay 253 = .ok (.aload_n 0, 1) := by decide +kernel
theorem dX9_lay_254 : decode cX9_lay 254 = .ok (.getfield 7, 3) := by decide +kernel
theorem dX9_lay_257 : decode cX9_lay 257 = .ok (.irem, 1) := by decide +kernel
theorem dX9_lay_258 : decode cX9_lay 258 = .ok (.iastore, 1) := by decide +kernel
theorem dX9_lay_259 : decode cX9_lay 259 = .ok (.iinc 5 1, 3) := by decide +kernel
theorem dX9_lay_262 : decode cX9_lay 262 = .ok (.goto (-36), 3) := by decide +kernel
theorem dX9_lay_265 : decode cX9_lay 265 = .ok (.iconst 0, 1) := by decide +kernel
theorem dX9_lay_266 : decode cX9_lay 266 = .ok (.istore 5, 2) := by decide +kernel
theorem dX9_lay_268 : decode cX9_lay 268 = .ok (.iload 5, 2) := by decide +kernel
theorem dX9_lay_270 : decode cX9_lay 270 = .ok (.aload_n 0, 1) := by decide +kernel
theorem dX9_lay_271 : decode cX9_lay 271 = .ok (.getfield 13, 3) := by decide +kernel
theorem dX9_lay_274 : decode cX9_lay 274 = .ok (.iconst 2, 1) := by decide +kernel
theorem dX9_lay_275 : decode cX9_lay 275 = .ok (.iaload, 1) := by decide +kernel
theorem dX9_lay_276 : decode cX9_lay 276 = .ok (.if_icmp .ge 101, 3) := by decide +kernel
theorem dX9_lay_279 : decode cX9_lay 279 = .ok (.sipush 729, 3) := by decide +kernel
theorem dX9_lay_282 : decode cX9_lay 282 = .ok (.iload_n 1, 1) := by decide +kernel
theorem dX9_lay_283 : decode cX9_lay 283 = .ok (.imul, 1) := by decide +kernel
theorem dX9_lay_284 : decode cX9_lay 284 = .ok (.bipush 81, 2) := by decide +kernel
theorem dX9_lay_286 : decode cX9_lay 286 = .ok (.iload 5, 2) := by decide +kernel
theorem dX9_lay_288 : decode cX9_lay 288 = .ok (.imul, 1) := by decide +kernel
theorem dX9_lay_289 : decode cX9_lay 289 = .ok (.iadd, 1) := by decide +kernel
theorem dX9_lay_290 : decode cX9_lay 290 = .ok (.istore 6, 2) := by decide +kernel
theorem dX9_lay_292 : decode cX9_lay 292 = .ok (.aload_n 0, 1) := by decide +kernel
theorem dX9_lay_293 : decode cX9_lay 293 = .ok (.getfield 7, 3) := by decide +kernel
theorem dX9_lay_296 : decode cX9_lay 296 = .ok (.aload_n 0, 1) := by decide +kernel
theorem dX9_lay_297 : decode cX9_lay 297 = .ok (.getfield 63, 3) := by decide +kernel
theorem dX9_lay_300 : decode cX9_lay 300 = .ok (.iload 6, 2) := by decide +kernel
theorem dX9_lay_302 : decode cX9_lay 302 = .ok (.iload_n 3, 1) := by decide +kernel
theorem dX9_lay_303 : decode cX9_lay 303 = .ok (.iadd, 1) := by decide +kernel
theorem dX9_lay_304 : decode cX9_lay 304 = .ok (.iaload, 1) := by decide +kernel
theorem dX9_lay_305 : decode cX9_lay 305 = .ok (.isub, 1) := by decide +kernel
theorem dX9_lay_306 : decode cX9_lay 306 = .ok (.aload_n 0, 1) := by decide +kernel
theorem dX9_lay_307 : decode cX9_lay 307 = .ok (.getfield 7, 3) := by decide +kernel
theorem dX9_lay_310 : decode cX9_lay 310 = .ok (.irem, 1) := by decide +kernel
theorem dX9_lay_311 : decode cX9_lay 311 = .ok (.istore 7, 2) := by decide +kernel
theorem dX9_lay_313 : decode cX9_lay 313 = .ok (.iconst 0, 1) := by decide +kernel
theorem dX9_lay_314 : decode cX9_lay 314 = .ok (.istore 8, 2) := by decide +kernel
theorem dX9_lay_316 : decode cX9_lay 316 = .ok (.iload 8, 2) := by decide +kernel
theorem dX9_lay_318 : decode cX9_lay 318 = .ok (.bipush 81, 2) := by decide +kernel
theorem dX9_lay_320 : decode cX9_lay 320 = .ok (.if_icmp .ge 51, 3) := by decide +kernel
theorem dX9_lay_323 : decode cX9_lay 323 = .ok (.aload_n 0, 1) := by decide +kernel
theorem dX9_lay_324 : decode cX9_lay 324 = .ok (.getfield 63, 3) := by decide +kernel
theorem dX9_lay_327 : decode cX9_lay 327 = .ok (.iload 6, 2) := by decide +kernel
theorem dX9_lay_329 : decode cX9_lay 329 = .ok (.sipush 729, 3) := by decide +kernel
theorem dX9_lay_332 : decode cX9_lay 332 = .ok (.iadd, 1) := by decide +kernel
theorem dX9_lay_333 : decode cX9_lay 333 = .ok (.iload 8, 2) := by decide +kernel
theorem dX9_lay_335 : decode cX9_lay 335 = .ok (.iadd, 1) := by decide +kernel
theorem dX9_lay_336 : decode cX9_lay 336 = .ok (.aload_n 0, 1) := by decide +kernel
theorem dX9_lay_337 : decode cX9_lay 337 = .ok (.getfield 63, 3) := by decide +kernel
theorem dX9_lay_340 : decode cX9_lay 340 = .ok (.iload 6, 2) := by decide +kernel
theorem dX9_lay_342 : decode cX9_lay 342 = .ok (.iload 8, 2) := by decide +kernel
theorem dX9_lay_344 : decode cX9_lay 344 = .ok (.iadd, 1) := by decide +kernel
theorem dX9_lay_345 : decode cX9_lay 345 = .ok (.iaload, 1) := by decide +kernel
theorem dX9_lay_346 : decode cX9_lay 346 = .ok (.iload 7, 2) := by decide +kernel
theorem dX9_lay_348 : decode cX9_lay 348 = .ok (.aload_n 0, 1) := by decide +kernel
theorem dX9_lay_349 : decode cX9_lay 349 = .ok (.getfield 66, 3) := by decide +kernel
theorem dX9_lay_352 : decode cX9_lay 352 = .ok (.iload_n 2, 1) := by decide +kernel
theorem dX9_lay_353 : decode cX9_lay 353 = .ok (.iload 8, 2) := by decide +kernel
theorem dX9_lay_355 : decode cX9_lay 355 = .ok (.iadd, 1) := by decide +kernel
theorem dX9_lay_356 : decode cX9_lay 356 = .ok (.iaload, 1) := by decide +kernel
theorem dX9_lay_357 : decode cX9_lay 357 = .ok (.imul, 1) := by decide +kernel
theorem dX9_lay_358 : decode cX9_lay 358 = .ok (.iadd, 1) := by decide +kernel
theorem dX9_lay_359 : decode cX9_lay 359 = .ok (.aload_n 0, 1) := by decide +kernel
theorem dX9_lay_360 : decode cX9_lay 360 = .ok (.getfield 7, 3) := by decide +kernel
theorem dX9_lay_363 : decode cX9_lay 363 = .ok (.irem, 1) := by decide +kernel
theorem dX9_lay_364 : decode cX9_lay 364 = .ok (.iastore, 1) := by decide +kernel
theorem dX9_lay_365 : decode cX9_lay 365 = .ok (.iinc 8 1, 3) := by decide +kernel
theorem dX9_lay_368 : decode cX9_lay 368 = .ok (.goto (-52), 3) := by decide +kernel
theorem dX9_lay_371 : decode cX9_lay 371 = .ok (.iinc 5 1, 3) := by decide +kernel
theorem dX9_lay_374 : decode cX9_lay 374 = .ok (.goto (-106), 3) := by decide +kernel
theorem dX9_lay_377 : decode cX9_lay 377 = .ok (.iconst 1, 1) := by decide +kernel
theorem dX9_lay_378 : decode cX9_lay 378 = .ok (.ireturn, 1) := by decide +kernel
theorem dX9_rankLeft_0 : decode cX9_rankLeft 0 = .ok (.iconst 0, 1) := by decide +kernel
theorem dX9_rankLeft_1 : decode cX9_rankLeft 1 = .ok (.istore_n 2, 1) := by decide +kernel
theorem dX9_rankLeft_2 : decode cX9_rankLeft 2 = .ok (.iload_n 2, 1) := by decide +kernel
theorem dX9_rankLeft_3 : decode cX9_rankLeft 3 = .ok (.aload_n 0, 1) := by decide +kernel
theorem dX9_rankLeft_4 : decode cX9_rankLeft 4 = .ok (.getfield 13, 3) := by decide +kernel
theorem dX9_rankLeft_7 : decode cX9_rankLeft 7 = .ok (.iconst 2, 1) := by decide +kernel
theorem dX9_rankLeft_8 : decode cX9_rankLeft 8 = .ok (.iaload, 1) := by decide +kernel
theorem dX9_rankLeft_9 : decode cX9_rankLeft 9 = .ok (.if_icmp .ge 51, 3) := by decide +kernel
theorem dX9_rankLeft_12 : decode cX9_rankLeft 12 = .ok (.iconst 0, 1) := by decide +kernel
theorem dX9_rankLeft_13 : decode cX9_rankLeft 13 = .ok (.istore_n 3, 1) := by decide +kernel
theorem dX9_rankLeft_14 : decode cX9_rankLeft 14 = .ok (.iload_n 3, 1) := by decide +kernel
theorem dX9_rankLeft_15 : decode cX9_rankLeft 15 = .ok (.bipush 81, 2) := by decide +kernel
theorem dX9_rankLeft_17 : decode cX9_rankLeft 17 = .ok (.if_icmp .ge 37, 3) := by decide +kernel
theorem dX9_rankLeft_20 : decode cX9_rankLeft 20 = .ok (.aload_n 0, 1) := by decide +kernel
theorem dX9_rankLeft_21 : decode cX9_rankLeft 21 = .ok (.getfield 51, 3) := by decide +kernel
theorem dX9_rankLeft_24 : decode cX9_rankLeft 24 = .ok (.bipush 81, 2) := by decide +kernel
theorem dX9_rankLeft_26 : decode cX9_rankLeft 26 = .ok (.iload_n 2, 1) := by decide +kernel
theorem dX9_rankLeft_27 : decode cX9_rankLeft 27 = .ok (.imul, 1) := by decide +kernel
theorem dX9_rankLeft_28 : decode cX9_rankLeft 28 = .ok (.iload_n 3, 1) := by decide +kernel
theorem dX9_rankLeft_29 : decode cX9_rankLeft 29 = .ok (.iadd, 1) := by decide +kernel
theorem dX9_rankLeft_30 : decode cX9_rankLeft 30 = .ok (.aload_n 0, 1) := by decide +kernel
theorem dX9_rankLeft_31 : decode cX9_rankLeft 31 = .ok (.getfield 63, 3) := by decide +kernel
theorem dX9_rankLeft_34 : decode cX9_rankLeft 34 = .ok (.sipush 729, 3) := by decide +kernel
theorem dX9_rankLeft_37 : decode cX9_rankLeft 37 = .ok (.iload_n 1, 1) := by decide +kernel
theorem dX9_rankLeft_38 : decode cX9_rankLeft 38 = .ok (.imul, 1) := by decide +kernel
theorem dX9_rankLeft_39 : decode cX9_rankLeft 39 = .ok (.bipush 81, 2) := by decide +kernel
theorem dX9_rankLeft_41 : decode cX9_rankLeft 41 = .ok (.iload_n 2, 1) := by decide +kernel
theorem dX9_rankLeft_42 : decode cX9_rankLeft 42 = .ok (.imul, 1) := by decide +kernel
theorem dX9_rankLeft_43 : decode cX9_rankLeft 43 = .ok (.iadd, 1) := by decide +kernel
theorem dX9_rankLeft_44 : decode cX9_rankLeft 44 = .ok (.iload_n 3, 1) := by decide +kernel
theorem dX9_rankLeft_45 : decode cX9_rankLeft 45 = .ok (.iadd, 1) := by decide +kernel
theorem dX9_rankLeft_46 : decode cX9_rankLeft 46 = .ok (.iaload, 1) := by decide +kernel
theorem dX9_rankLeft_47 : decode cX9_rankLeft 47 = .ok (.iastore, 1) := by decide +kernel
theorem dX9_rankLeft_48 : decode cX9_rankLeft 48 = .ok (.iinc 3 1, 3) := by decide +kernel
theorem dX9_rankLeft_51 : decode cX9_rankLeft 51 = .ok (.goto (-37), 3) := by decide +kernel
theorem dX9_rankLeft_54 : decode cX9_rankLeft 54 = .ok (.iinc 2 1, 3) := by decide +kernel
theorem dX9_rankLeft_57 : decode cX9_rankLeft 57 = .ok (.goto (-55), 3) := by decide +kernel
theorem dX9_rankLeft_60 : decode cX9_rankLeft 60 = .ok (.aload_n 0, 1) := by decide +kernel
theorem dX9_rankLeft_61 : decode cX9_rankLeft 61 = .ok (.aload_n 0, 1) := by decide +kernel
theorem dX9_rankLeft_62 : decode cX9_rankLeft 62 = .ok (.getfield 13, 3) := by decide +kernel
theorem dX9_rankLeft_65 : decode cX9_rankLeft 65 = .ok (.iconst 2, 1) := by decide +kernel
theorem dX9_rankLeft_66 : decode cX9_rankLeft 66 = .ok (.iaload, 1) := by decide +kernel
theorem dX9_rankLeft_67 : decode cX9_rankLeft 67 = .ok (.bipush 81, 2) := by decide +kernel
theorem dX9_rankLeft_69 : decode cX9_rankLeft 69 = .ok (.invokevirtual 185, 3) := by decide +kernel
theorem dX9_rankLeft_72 : decode cX9_rankLeft 72 = .ok (.ireturn, 1) := by decide +kernel
theorem dX9_isDoneBy_0 : decode cX9_isDoneBy 0 = .ok (.aload_n 0, 1) := by decide +kernel
theorem dX9_isDoneBy_1 : decode cX9_isDoneBy 1 = .ok (.iconst 0, 1) := by decide +kernel
theorem dX9_isDoneBy_2 : decode cX9_isDoneBy 2 = .ok (.invokevirtual 207, 3) := by decide +kernel
theorem dX9_isDoneBy_5 : decode cX9_isDoneBy 5 = .ok (.iload_n 1, 1) := by decide +kernel
theorem dX9_isDoneBy_6 : decode cX9_isDoneBy 6 = .ok (.if_icmp .le 5, 3) := by decide +kernel
theorem dX9_isDoneBy_9 : decode cX9_isDoneBy 9 = .ok (.iconst 0, 1) := by decide +kernel
theorem dX9_isDoneBy_10 : decode cX9_isDoneBy 10 = .ok (.ireturn, 1) := by decide +kernel
theorem dX9_isDoneBy_11 : decode cX9_isDoneBy 11 = .ok (.iconst 0, 1) := by decide +kernel
theorem dX9_isDoneBy_12 : decode cX9_isDoneBy 12 = .ok (.istore_n 2, 1) := by decide +kernel
theorem dX9_isDoneBy_13 : decode cX9_isDoneBy 13 = .ok (.aload_n 0, 1) := by decide +kernel
theorem dX9_isDoneBy_14 : decode cX9_isDoneBy 14 = .ok (.getfield 60, 3) := by decide +kernel
theorem dX9_isDoneBy_17 : decode cX9_isDoneBy 17 = .ok (.iconst 0, 1) := by decide +kernel
theorem dX9_isDoneBy_18 : decode cX9_isDoneBy 18 = .ok (.iconst (-1), 1) := by decide +kernel
theorem dX9_isDoneBy_19 : decode cX9_isDoneBy 19 = .ok (.iastore, 1) := by decide +kernel
theorem dX9_isDoneBy_20 : decode cX9_isDoneBy 20 = .ok (.iload_n 2, 1) := by decide +kernel
theorem dX9_isDoneBy_21 : decode cX9_isDoneBy 21 = .ok (.ifCond .lt 87, 3) := by decide +kernel
theorem dX9_isDoneBy_24 : decode cX9_isDoneBy 24 = .ok (.iload_n 2, 1) := by decide +kernel
theorem dX9_isDoneBy_25 : decode cX9_isDoneBy 25 = .ok (.iload_n 1, 1) := by decide +kernel
theorem dX9_isDoneBy_26 : decode cX9_isDoneBy 26 = .ok (.if_icmp .ne 5, 3) := by decide +kernel
theorem dX9_isDoneBy_29 : decode cX9_isDoneBy 29 = .ok (.iconst 1, 1) := by decide +kernel
theorem dX9_isDoneBy_30 : decode cX9_isDoneBy 30 = .ok (.ireturn, 1) := by decide +kernel
theorem dX9_isDoneBy_31 : decode cX9_isDoneBy 31 = .ok (.aload_n 0, 1) := by decide +kernel
theorem dX9_isDoneBy_32 : decode cX9_isDoneBy 32 = .ok (.getfield 60, 3) := by decide +kernel
theorem dX9_isDoneBy_35 : decode cX9_isDoneBy 35 = .ok (.iload_n 2, 1) := by decide +kernel
theorem dX9_isDoneBy_36 : decode cX9_isDoneBy 36 = .ok (.dup2, 1) := by decide +kernel
theorem dX9_isDoneBy_37 : decode cX9_isDoneBy 37 = .ok (.iaload, 1) := by decide +kernel
theorem dX9_isDoneBy_38 : decode cX9_isDoneBy 38 = .ok (.iconst 1, 1) := by decide +kernel
theorem dX9_isDoneBy_39 : decode cX9_isDoneBy 39 = .ok (.iadd, 1) := by decide +kernel
theorem dX9_isDoneBy_40 : decode cX9_isDoneBy 40 = .ok (.iastore, 1) := by decide +kernel
theorem dX9_isDoneBy_41 : decode cX9_isDoneBy 41 = .ok (.aload_n 0, 1) := by decide +kernel
theorem dX9_isDoneBy_42 : decode cX9_isDoneBy 42 = .ok (.getfield 60, 3) := by decide +kernel
theorem dX9_isDoneBy_45 : decode cX9_isDoneBy 45 = .ok (.iload_n 2, 1) := by decide +kernel
theorem dX9_isDoneBy_46 : decode cX9_isDoneBy 46 = .ok (.iaload, 1) := by decide +kernel
theorem dX9_isDoneBy_47 : decode cX9_isDoneBy 47 = .ok (.aload_n 0, 1) := by decide +kernel
theorem dX9_isDoneBy_48 : decode cX9_isDoneBy 48 = .ok (.getfield 198, 3) := by decide +kernel
theorem dX9_isDoneBy_51 : decode cX9_isDoneBy 51 = .ok (.if_icmp .lt 9, 3) := by decide +kernel
theorem dX9_isDoneBy_54 : decode cX9_isDoneBy 54 = .ok (.iinc 2 (-1), 3) := by decide +kernel
theorem dX9_isDoneBy_57 : decode cX9_isDoneBy 57 = .ok (.goto (-37), 3) := by decide +kernel
theorem dX9_isDoneBy_60 : decode cX9_isDoneBy 60 = .ok (.aload_n 0, 1) := by decide +kernel
theorem dX9_isDoneBy_61 : decode cX9_isDoneBy 61 = .ok (.iload_n 2, 1) := by decide +kernel
theorem dX9_isDoneBy_62 : decode cX9_isDoneBy 62 = .ok (.invokevirtual 210, 3) := by decide +kernel
theorem dX9_isDoneBy_65 : decode cX9_isDoneBy 65 = .ok (.ifCond .eq (-45), 3) := by decide +kernel
theorem dX9_isDoneBy_68 : decode cX9_isDoneBy 68 = .ok (.aload_n 0, 1) := by decide +kernel
theorem dX9_isDoneBy_69 : decode cX9_isDoneBy 69 = .ok (.iload_n 2, 1) := by decide +kernel
theorem dX9_isDoneBy_70 : decode cX9_isDoneBy 70 = .ok (.iconst 1, 1) := by decide +kernel
theorem dX9_isDoneBy_71 : decode cX9_isDoneBy 71 = .ok (.iadd, 1) := by decide +kernel
theorem dX9_isDoneBy_72 : decode cX9_isDoneBy 72 = .ok (.invokevirtual 207, 3) := by decide +kernel
theorem dX9_isDoneBy_75 : decode cX9_isDoneBy 75 = .ok (.iload_n 1, 1) := by decide +kernel
theorem dX9_isDoneBy_76 : decode cX9_isDoneBy 76 = .ok (.iload_n 2, 1) := by decide +kernel
theorem dX9_isDoneBy_77 : decode cX9_isDoneBy 77 = .ok (.isub, 1) := by decide +kernel
theorem dX9_isDoneBy_78 : decode cX9_isDoneBy 78 = .ok (.iconst 1, 1) := by decide +kernel
theorem dX9_isDoneBy_79 : decode cX9_isDoneBy 79 = .ok (.isub, 1) := by decide +kernel
theorem dX9_isDoneBy_80 : decode cX9_isDoneBy 80 = .ok (.if_icmp .gt (-60), 3) := by decide +kernel
theorem dX9_isDoneBy_83 : decode cX9_isDoneBy 83 = .ok (.iinc 2 1, 3) := by decide +kernel
theorem dX9_isDoneBy_86 : decode cX9_isDoneBy 86 = .ok (.iload_n 2, 1) := by decide +kernel
theorem dX9_isDoneBy_87 : decode cX9_isDoneBy 87 = .ok (.iload_n 1, 1) := by decide +kernel
theorem dX9_isDoneBy_88 : decode cX9_isDoneBy 88 = .ok (.if_icmp .ge (-68), 3) := by decide +kernel
theorem dX9_isDoneBy_91 : decode cX9_isDoneBy 91 = .ok (.aload_n 0, 1) := by decide +kernel
theorem dX9_isDoneBy_92 : decode cX9_isDoneBy 92 = .ok (.getfield 60, 3) := by decide +kernel
theorem dX9_isDoneBy_95 : decode cX9_isDoneBy 95 = .ok (.iload_n 2, 1) := by decide +kernel
theorem dX9_isDoneBy_96 : decode cX9_isDoneBy 96 = .ok (.aload_n 0, 1) := by decide +kernel
theorem dX9_isDoneBy_97 : decode cX9_isDoneBy 97 = .ok (.getfield 60, 3) := by decide +kernel
theorem dX9_isDoneBy_100 : decode cX9_isDoneBy 100 = .ok (.iload_n 2, 1) := by decide +kernel
theorem dX9_isDoneBy_101 : decode cX9_isDoneBy 101 = .ok (.iconst 1, 1) := by decide +kernel
theorem dX9_isDoneBy_102 : decode cX9_isDoneBy 102 = .ok (.isub, 1) := by decide +kernel
theorem dX9_isDoneBy_103 : decode cX9_isDoneBy 103 = .ok (.iaload, 1) := by decide +kernel
theorem dX9_isDoneBy_104 : decode cX9_isDoneBy 104 = .ok (.iastore, 1) := by decide +kernel
theorem dX9_isDoneBy_105 : decode cX9_isDoneBy 105 = .ok (.goto (-85), 3) := by decide +kernel
theorem dX9_isDoneBy_108 : decode cX9_isDoneBy 108 = .ok (.iconst 0, 1) := by decide +kernel
theorem dX9_isDoneBy_109 : decode cX9_isDoneBy 109 = .ok (.ireturn, 1) := by decide +kernel
theorem dX9_findLeast_0 : decode cX9_findLeast 0 = .ok (.aload_n 0, 1) := by decide +kernel
theorem dX9_findLeast_1 : decode cX9_findLeast 1 = .ok (.iconst 0, 1) := by decide +kernel
theorem dX9_findLeast_2 : decode cX9_findLeast 2 = .ok (.invokevirtual 213, 3) := by decide +kernel
theorem dX9_findLeast_5 : decode cX9_findLeast 5 = .ok (.aload_n 0, 1) := by decide +kernel
theorem dX9_findLeast_6 : decode cX9_findLeast 6 = .ok (.iconst 1, 1) := by decide +kernel
theorem dX9_findLeast_7 : decode cX9_findLeast 7 = .ok (.invokevirtual 213, 3) := by decide +kernel
theorem dX9_findLeast_10 : decode cX9_findLeast 10 = .ok (.lmul, 1) := by decide +kernel
theorem dX9_findLeast_11 : decode cX9_findLeast 11 = .ok (.ldc2_w 217, 3) := by decide +kernel
theorem dX9_findLeast_14 : decode cX9_findLeast 14 = .ok (.lcmp, 1) := by decide +kernel
theorem dX9_findLeast_15 : decode cX9_findLeast 15 = .ok (.ifCond .le 6, 3) := by decide +kernel
theorem dX9_findLeast_18 : decode cX9_findLeast 18 = .ok (.bipush (-3), 2) := by decide +kernel
theorem dX9_findLeast_20 : decode cX9_findLeast 20 = .ok (.ireturn, 1) := by decide +kernel
theorem dX9_findLeast_21 : decode cX9_findLeast 21 = .ok (.aload_n 0, 1) := by decide +kernel
theorem dX9_findLeast_22 : decode cX9_findLeast 22 = .ok (.getfield 91, 3) := by decide +kernel
theorem dX9_findLeast_25 : decode cX9_findLeast 25 = .ok (.ifCond .ne 99, 3) := by decide +kernel
theorem dX9_findLeast_28 : decode cX9_findLeast 28 = .ok (.aload_n 0, 1) := by decide +kernel
theorem dX9_findLeast_29 : decode cX9_findLeast 29 = .ok (.invokevirtual 219, 3) := by decide +kernel
theorem dX9_findLeast_32 : decode cX9_findLeast 32 = .ok (.iconst 0, 1) := by decide +kernel
theorem dX9_findLeast_33 : decode cX9_findLeast 33 = .ok (.istore_n 1, 1) := by decide +kernel
theorem dX9_findLeast_34 : decode cX9_findLeast 34 = .ok (.iload_n 1, 1) := by decide +kernel
theorem dX9_findLeast_35 : decode cX9_findLeast 35 = .ok (.bipush 9, 2) := by decide +kernel
theorem dX9_findLeast_37 : decode cX9_findLeast 37 = .ok (.if_icmp .ge 45, 3) := by decide +kernel
theorem dX9_findLeast_40 : decode cX9_findLeast 40 = .ok (.iconst 0, 1) := by decide +kernel
theorem dX9_findLeast_41 : decode cX9_findLeast 41 = .ok (.istore_n 2, 1) := by decide +kernel
theorem dX9_findLeast_42 : decode cX9_findLeast 42 = .ok (.iload_n 2, 1) := by decide +kernel
theorem dX9_findLeast_43 : decode cX9_findLeast 43 = .ok (.bipush 81, 2) := by decide +kernel
theorem dX9_findLeast_45 : decode cX9_findLeast 45 = .ok (.if_icmp .ge 31, 3) := by decide +kernel
theorem dX9_findLeast_48 : decode cX9_findLeast 48 = .ok (.aload_n 0, 1) := by decide +kernel
theorem dX9_findLeast_49 : decode cX9_findLeast 49 = .ok (.getfield 63, 3) := by decide +kernel
theorem dX9_findLeast_52 : decode cX9_findLeast 52 = .ok (.bipush 81, 2) := by decide +kernel
theorem dX9_findLeast_54 : decode cX9_findLeast 54 = .ok (.iload_n 1, 1) := by decide +kernel
theorem dX9_findLeast_55 : decode cX9_findLeast 55 = .ok (.imul, 1) := by decide +kernel
theorem dX9_findLeast_56 : decode cX9_findLeast 56 = .ok (.iload_n 2, 1) := by decide +kernel
theorem dX9_findLeast_57 : decode cX9_findLeast 57 = .ok (.iadd, 1) := by decide +kernel
theorem dX9_findLeast_58 : decode cX9_findLeast 58 = .ok (.aload_n 0, 1) := by decide +kernel
theorem dX9_findLeast_59 : decode cX9_findLeast 59 = .ok (.getfield 17, 3) := by decide +kernel
theorem dX9_findLeast_62 : decode cX9_findLeast 62 = .ok (.bipush 9, 2) := by decide +kernel
theorem dX9_findLeast_64 : decode cX9_findLeast 64 = .ok (.iload_n 2, 1) := by decide +kernel
theorem dX9_findLeast_65 : decode cX9_findLeast 65 = .ok (.imul, 1) := by decide +kernel
theorem dX9_findLeast_66 : decode cX9_findLeast 66 = .ok (.iload_n 1, 1) := by decide +kernel
theorem dX9_findLeast_67 : decode cX9_findLeast 67 = .ok (.iadd, 1) := by decide +kernel
theorem dX9_findLeast_68 : decode cX9_findLeast 68 = .ok (.iaload, 1) := by decide +kernel
theorem dX9_findLeast_69 : decode cX9_findLeast 69 = .ok (.iastore, 1) := by decide +kernel
theorem dX9_findLeast_70 : decode cX9_findLeast 70 = .ok (.iinc 2 1, 3) := by decide +kernel
theorem dX9_findLeast_73 : decode cX9_findLeast 73 = .ok (.goto (-31), 3) := by decide +kernel
theorem dX9_findLeast_76 : decode cX9_findLeast 76 = .ok (.iinc 1 1, 3) := by decide +kernel
theorem dX9_findLeast_79 : decode cX9_findLeast 79 = .ok (.goto (-45), 3) := by decide +kernel
theorem dX9_findLeast_82 : decode cX9_findLeast 82 = .ok (.aload_n 0, 1) := by decide +kernel
theorem dX9_findLeast_83 : decode cX9_findLeast 83 = .ok (.iconst 0, 1) := by decide +kernel
theorem dX9_findLeast_84 : decode cX9_findLeast 84 = .ok (.putfield 222, 3) := by decide +kernel
theorem dX9_findLeast_87 : decode cX9_findLeast 87 = .ok (.aload_n 0, 1) := by decide +kernel
theorem dX9_findLeast_88 : decode cX9_findLeast 88 = .ok (.getfield 222, 3) := by decide +kernel
theorem dX9_findLeast_91 : decode cX9_findLeast 91 = .ok (.iconst 4, 1) := by decide +kernel
theorem dX9_findLeast_92 : decode cX9_findLeast 92 = .ok (.if_icmp .gt 27, 3) := by decide +kernel
theorem dX9_findLeast_95 : decode cX9_findLeast 95 = .ok (.aload_n 0, 1) := by decide +kernel
theorem dX9_findLeast_96 : decode cX9_findLeast 96 = .ok (.aload_n 0, 1) := by decide +kernel
theorem dX9_findLeast_97 : decode cX9_findLeast 97 = .ok (.getfield 222, 3) := by decide +kernel
theorem dX9_findLeast_100 : decode cX9_findLeast 100 = .ok (.invokevirtual 225, 3) := by decide +kernel
theorem dX9_findLeast_103 : decode cX9_findLeast 103 = .ok (.ifCond .ne 16, 3) := by decide +kernel
theorem dX9_findLeast_106 : decode cX9_findLeast 106 = .ok (.aload_n 0, 1) := by decide +kernel
theorem dX9_findLeast_107 : decode cX9_findLeast 107 = .ok (.dup, 1) := by decide +kernel
theorem dX9_findLeast_108 : decode cX9_findLeast 108 = .ok (.getfield 222, 3) := by decide +kernel
theorem dX9_findLeast_111 : decode cX9_findLeast 111 = .ok (.iconst 1, 1) := by decide +kernel
theorem dX9_findLeast_112 : decode cX9_findLeast 112 = .ok (.iadd, 1) := by decide +kernel
theorem dX9_findLeast_113 : decode cX9_findLeast 113 = .ok (.putfield 222, 3) := by decide +kernel
theorem dX9_findLeast_116 : decode cX9_findLeast 116 = .ok (.goto (-29), 3) := by decide +kernel
theorem dX9_findLeast_119 : decode cX9_findLeast 119 = .ok (.aload_n 0, 1) := by decide +kernel
theorem dX9_findLeast_120 : decode cX9_findLeast 120 = .ok (.iconst 1, 1) := by decide +kernel
theorem dX9_findLeast_121 : decode cX9_findLeast 121 = .ok (.putfield 91, 3) := by decide +kernel
theorem dX9_findLeast_124 : decode cX9_findLeast 124 = .ok (.aload_n 0, 1) := by decide +kernel
theorem dX9_findLeast_125 : decode cX9_findLeast 125 = .ok (.getfield 222, 3) := by decide +kernel
theorem dX9_findLeast_128 : decode cX9_findLeast 128 = .ok (.iconst 4, 1) := by decide +kernel
theorem dX9_findLeast_129 : decode cX9_findLeast 129 = .ok (.if_icmp .le 8, 3) := by decide +kernel
theorem dX9_findLeast_132 : decode cX9_findLeast 132 = .ok (.bipush (-5), 2) := by decide +kernel
theorem dX9_findLeast_134 : decode cX9_findLeast 134 = .ok (.goto 7, 3) := by decide +kernel
theorem dX9_findLeast_137 : decode cX9_findLeast 137 = .ok (.aload_n 0, 1) := by decide +kernel
theorem dX9_findLeast_138 : decode cX9_findLeast 138 = .ok (.getfield 222, 3) := by decide +kernel
theorem dX9_findLeast_141 : decode cX9_findLeast 141 = .ok (.ireturn, 1) := by decide +kernel
theorem dX9_least_0 : decode cX9_least 0 = .ok (.aload_n 0, 1) := by decide +kernel
theorem dX9_least_1 : decode cX9_least 1 = .ok (.invokevirtual 228, 3) := by decide +kernel
theorem dX9_least_4 : decode cX9_least 4 = .ok (.ireturn, 1) := by decide +kernel
theorem dX9_sumTo_0 : decode cX9_sumTo 0 = .ok (.iconst 0, 1) := by decide +kernel
theorem dX9_sumTo_1 : decode cX9_sumTo 1 = .ok (.istore_n 3, 1) := by decide +kernel
theorem dX9_sumTo_2 : decode cX9_sumTo 2 = .ok (.iload_n 3, 1) := by decide +kernel
theorem dX9_sumTo_3 : decode cX9_sumTo 3 = .ok (.bipush 81, 2) := by decide +kernel
theorem dX9_sumTo_5 : decode cX9_sumTo 5 = .ok (.if_icmp .ge 102, 3) := by decide +kernel
theorem dX9_sumTo_8 : decode cX9_sumTo 8 = .ok (.iconst 0, 1) := by decide +kernel
theorem dX9_sumTo_9 : decode cX9_sumTo 9 = .ok (.istore 4, 2) := by decide +kernel
theorem dX9_sumTo_11 : decode cX9_sumTo 11 = .ok (.iload 4, 2) := by decide +kernel
theorem dX9_sumTo_13 : decode cX9_sumTo 13 = .ok (.iload_n 1, 1) := by decide +kernel
theorem dX9_sumTo_14 : decode cX9_sumTo 14 = .ok (.if_icmp .ge 66, 3) := by decide +kernel
theorem dX9_sumTo_17 : decode cX9_sumTo 17 = .ok (.aload_n 0, 1) := by decide +kernel
theorem dX9_sumTo_18 : decode cX9_sumTo 18 = .ok (.getfield 72, 3) := by decide +kernel
theorem dX9_sumTo_21 : decode cX9_sumTo 21 = .ok (.iconst 5, 1) := by decide +kernel
theorem dX9_sumTo_22 : decode cX9_sumTo 22 = .ok (.iload_n 3, 1) := by decide +kernel
theorem dX9_sumTo_23 : decode cX9_sumTo 23 = .ok (.imul, 1) := by decide +kernel
theorem dX9_sumTo_24 : decode cX9_sumTo 24 = .ok (.iload 4, 2) := by decide +kernel
theorem dX9_sumTo_26 : decode cX9_sumTo 26 = .ok (.iadd, 1) := by decide +kernel
theorem dX9_sumTo_27 : decode cX9_sumTo 27 = .ok (.aload_n 0, 1) := by decide +kernel
theorem dX9_sumTo_28 : decode cX9_sumTo 28 = .ok (.aload_n 0, 1) := by decide +kernel
theorem dX9_sumTo_29 : decode cX9_sumTo 29 = .ok (.getfield 54, 3) := by decide +kernel
theorem dX9_sumTo_32 : decode cX9_sumTo 32 = .ok (.aload_n 0, 1) := by decide +kernel
theorem dX9_sumTo_33 : decode cX9_sumTo 33 = .ok (.getfield 60, 3) := by decide +kernel
theorem dX9_sumTo_36 : decode cX9_sumTo 36 = .ok (.iload 4, 2) := by decide +kernel
theorem dX9_sumTo_38 : decode cX9_sumTo 38 = .ok (.iaload, 1) := by decide +kernel
theorem dX9_sumTo_39 : decode cX9_sumTo 39 = .ok (.iaload, 1) := by decide +kernel
theorem dX9_sumTo_40 : decode cX9_sumTo 40 = .ok (.iload_n 3, 1) := by decide +kernel
theorem dX9_sumTo_41 : decode cX9_sumTo 41 = .ok (.bipush 9, 2) := by decide +kernel
theorem dX9_sumTo_43 : decode cX9_sumTo 43 = .ok (.idiv, 1) := by decide +kernel
theorem dX9_sumTo_44 : decode cX9_sumTo 44 = .ok (.invokevirtual 204, 3) := by decide +kernel
theorem dX9_sumTo_47 : decode cX9_sumTo 47 = .ok (.aload_n 0, 1) := by decide +kernel
theorem dX9_sumTo_48 : decode cX9_sumTo 48 = .ok (.aload_n 0, 1) := by decide +kernel
theorem dX9_sumTo_49 : decode cX9_sumTo 49 = .ok (.getfield 57, 3) := by decide +kernel
theorem dX9_sumTo_52 : decode cX9_sumTo 52 = .ok (.aload_n 0, 1) := by decide +kernel
theorem dX9_sumTo_53 : decode cX9_sumTo 53 = .ok (.getfield 60, 3) := by decide +kernel
theorem dX9_sumTo_56 : decode cX9_sumTo 56 = .ok (.iload 4, 2) := by decide +kernel
theorem dX9_sumTo_58 : decode cX9_sumTo 58 = .ok (.iaload, 1) := by decide +kernel
theorem dX9_sumTo_59 : decode cX9_sumTo 59 = .ok (.iaload, 1) := by decide +kernel
theorem dX9_sumTo_60 : decode cX9_sumTo 60 = .ok (.iload_n 3, 1) := by decide +kernel
theorem dX9_sumTo_61 : decode cX9_sumTo 61 = .ok (.bipush 9, 2) := by decide +kernel
theorem dX9_sumTo_63 : decode cX9_sumTo 63 = .ok (.irem, 1) := by decide +kernel
theorem dX9_sumTo_64 : decode cX9_sumTo 64 = .ok (.invokevirtual 204, 3) := by decide +kernel
theorem dX9_sumTo_67 : decode cX9_sumTo 67 = .ok (.imul, 1) := by decide +kernel
theorem dX9_sumTo_68 : decode cX9_sumTo 68 = .ok (.aload_n 0, 1) := by decide +kernel
theorem dX9_sumTo_69 : decode cX9_sumTo 69 = .ok (.getfield 7, 3) := by decide +kernel
theorem dX9_sumTo_72 : decode cX9_sumTo 72 = .ok (.irem, 1) := by decide +kernel
theorem dX9_sumTo_73 : decode cX9_sumTo 73 = .ok (.iastore, 1) := by decide +kernel
theorem dX9_sumTo_74 : decode cX9_sumTo 74 = .ok (.iinc 4 1, 3) := by decide +kernel
theorem dX9_sumTo_77 : decode cX9_sumTo 77 = .ok (.goto (-66), 3) := by decide +kernel
theorem dX9_sumTo_80 : decode cX9_sumTo 80 = .ok (.aload_n 0, 1) := by decide +kernel
theorem dX9_sumTo_81 : decode cX9_sumTo 81 = .ok (.getfield 72, 3) := by decide +kernel
theorem dX9_sumTo_84 : decode cX9_sumTo 84 = .ok (.iconst 5, 1) := by decide +kernel
theorem dX9_sumTo_85 : decode cX9_sumTo 85 = .ok (.iload_n 3, 1) := by decide +kernel
theorem dX9_sumTo_86 : decode cX9_sumTo 86 = .ok (.imul, 1) := by decide +kernel
theorem dX9_sumTo_87 : decode cX9_sumTo 87 = .ok (.iconst 4, 1) := by decide +kernel
theorem dX9_sumTo_88 : decode cX9_sumTo 88 = .ok (.iadd, 1) := by decide +kernel
theorem dX9_sumTo_89 : decode cX9_sumTo 89 = .ok (.aload_n 0, 1) := by decide +kernel
theorem dX9_sumTo_90 : decode cX9_sumTo 90 = .ok (.getfield 17, 3) := by decide +kernel
theorem dX9_sumTo_93 : decode cX9_sumTo 93 = .ok (.bipush 9, 2) := by decide +kernel
theorem dX9_sumTo_95 : decode cX9_sumTo 95 = .ok (.iload_n 3, 1) := by decide +kernel
theorem dX9_sumTo_96 : decode cX9_sumTo 96 = .ok (.imul, 1) := by decide +kernel
theorem dX9_sumTo_97 : decode cX9_sumTo 97 = .ok (.iload_n 2, 1) := by decide +kernel
theorem dX9_sumTo_98 : decode cX9_sumTo 98 = .ok (.iadd, 1) := by decide +kernel
theorem dX9_sumTo_99 : decode cX9_sumTo 99 = .ok (.iaload, 1) := by decide +kernel
theorem dX9_sumTo_100 : decode cX9_sumTo 100 = .ok (.iastore, 1) := by decide +kernel
theorem dX9_sumTo_101 : decode cX9_sumTo 101 = .ok (.iinc 3 1, 3) := by decide +kernel
theorem dX9_sumTo_104 : decode cX9_sumTo 104 = .ok (.goto (-102), 3) := by decide +kernel
theorem dX9_sumTo_107 : decode cX9_sumTo 107 = .ok (.iconst 0, 1) := by decide +kernel
theorem dX9_sumTo_108 : decode cX9_sumTo 108 = .ok (.istore_n 3, 1) := by decide +kernel
theorem dX9_sumTo_109 : decode cX9_sumTo 109 = .ok (.iload_n 3, 1) := by decide +kernel
theorem dX9_sumTo_110 : decode cX9_sumTo 110 = .ok (.iload_n 1, 1) := by decide +kernel
theorem dX9_sumTo_111 : decode cX9_sumTo 111 = .ok (.if_icmp .ge 235, 3) := by decide +kernel
theorem dX9_sumTo_114 : decode cX9_sumTo 114 = .ok (.iload_n 3, 1) := by decide +kernel
theorem dX9_sumTo_115 : decode cX9_sumTo 115 = .ok (.istore 4, 2) := by decide +kernel
theorem dX9_sumTo_117 : decode cX9_sumTo 117 = .ok (.aload_n 0, 1) := by decide +kernel
theorem dX9_sumTo_118 : decode cX9_sumTo 118 = .ok (.getfield 72, 3) := by decide +kernel
theorem dX9_sumTo_121 : decode cX9_sumTo 121 = .ok (.iconst 5, 1) := by decide +kernel
theorem dX9_sumTo_122 : decode cX9_sumTo 122 = .ok (.iload 4, 2) := by decide +kernel
theorem dX9_sumTo_124 : decode cX9_sumTo 124 = .ok (.imul, 1) := by decide +kernel
theorem dX9_sumTo_125 : decode cX9_sumTo 125 = .ok (.iload_n 3, 1) := by decide +kernel
theorem dX9_sumTo_126 : decode cX9_sumTo 126 = .ok (.iadd, 1) := by decide +kernel
theorem dX9_sumTo_127 : decode cX9_sumTo 127 = .ok (.iaload, 1) := by decide +kernel
theorem dX9_sumTo_128 : decode cX9_sumTo 128 = .ok (.ifCond .ne 9, 3) := by decide +kernel
theorem dX9_sumTo_131 : decode cX9_sumTo 131 = .ok (.iinc 4 1, 3) := by decide +kernel
theorem dX9_sumTo_134 : decode cX9_sumTo 134 = .ok (.goto (-17), 3) := by decide +kernel
theorem dX9_sumTo_137 : decode cX9_sumTo 137 = .ok (.aload_n 0, 1) := by decide +kernel
theorem dX9_sumTo_138 : decode cX9_sumTo 138 = .ok (.aload_n 0, 1) := by decide +kernel
theorem dX9_sumTo_139 : decode cX9_sumTo 139 = .ok (.getfield 72, 3) := by decide +kernel
theorem dX9_sumTo_142 : decode cX9_sumTo 142 = .ok (.iconst 5, 1) := by decide +kernel
theorem dX9_sumTo_143 : decode cX9_sumTo 143 = .ok (.iload 4, 2) := by decide +kernel
theorem dX9_sumTo_145 : decode cX9_sumTo 145 = .ok (.imul, 1) := by decide +kernel
theorem dX9_sumTo_146 : decode cX9_sumTo 146 = .ok (.iload_n 3, 1) := by decide +kernel
theorem dX9_sumTo_147 : decode cX9_sumTo 147 = .ok (.iadd, 1) := by decide +kernel
theorem dX9_sumTo_148 : decode cX9_sumTo 148 = .ok (.iaload, 1) := by decide +kernel
theorem dX9_sumTo_149 : decode cX9_sumTo 149 = .ok (.invokevirtual 147, 3) := by decide +kernel
theorem dX9_sumTo_152 : decode cX9_sumTo 152 = .ok (.istore 5, 2) := by decide +kernel
theorem dX9_sumTo_154 : decode cX9_sumTo 154 = .ok (.iconst 0, 1) := by decide +kernel
theorem dX9_sumTo_155 : decode cX9_sumTo 155 = .ok (.istore 6, 2) := by decide +kernel
theorem dX9_sumTo_157 : decode cX9_sumTo 157 = .ok (.iload 6, 2) := by decide +kernel
theorem dX9_sumTo_159 : decode cX9_sumTo 159 = .ok (.iconst 5, 1) := by decide +kernel
theorem dX9_sumTo_160 : decode cX9_sumTo 160 = .ok (.if_icmp .ge 67, 3) := by decide +kernel
theorem dX9_sumTo_163 : decode cX9_sumTo 163 = .ok (.aload_n 0, 1) := by decide +kernel
theorem dX9_sumTo_164 : decode cX9_sumTo 164 = .ok (.getfield 72, 3) := by decide +kernel
theorem dX9_sumTo_167 : decode cX9_sumTo 167 = .ok (.iconst 5, 1) := by decide +kernel
theorem dX9_sumTo_168 : decode cX9_sumTo 168 = .ok (.iload 4, 2) := by decide +kernel
theorem dX9_sumTo_170 : decode cX9_sumTo 170 = .ok (.imul, 1) := by decide +kernel
theorem dX9_sumTo_171 : decode cX9_sumTo 171 = .ok (.iload 6, 2) := by decide +kernel
theorem dX9_sumTo_173 : decode cX9_sumTo 173 = .ok (.iadd, 1) := by decide +kernel
theorem dX9_sumTo_174 : decode cX9_sumTo 174 = .ok (.iaload, 1) := by decide +kernel
theorem dX9_sumTo_175 : decode cX9_sumTo 175 = .ok (.iload 5, 2) := by decide +kernel
theorem dX9_sumTo_177 : decode cX9_sumTo 177 = .ok (.imul, 1) := by decide +kernel
theorem dX9_sumTo_178 : decode cX9_sumTo 178 = .ok (.aload_n 0, 1) := by decide +kernel
theorem dX9_sumTo_179 : decode cX9_sumTo 179 = .ok (.getfield 7, 3) := by decide +kernel
theorem dX9_sumTo_182 : decode cX9_sumTo 182 = .ok (.irem, 1) := by decide +kernel
theorem dX9_sumTo_183 : decode cX9_sumTo 183 = .ok (.istore 7, 2) := by decide +kernel
theorem dX9_sumTo_185 : decode cX9_sumTo 185 = .ok (.aload_n 0, 1) := by decide +kernel
theorem dX9_sumTo_186 : decode cX9_sumTo 186 = .ok (.getfield 72, 3) := by decide +kernel
theorem dX9_sumTo_189 : decode cX9_sumTo 189 = .ok (.iconst 5, 1) := by decide +kernel
theorem dX9_sumTo_190 : decode cX9_sumTo 190 = .ok (.iload 4, 2) := by decide +kernel
theorem dX9_sumTo_192 : decode cX9_sumTo 192 = .ok (.imul, 1) := by decide +kernel
theorem dX9_sumTo_193 : decode cX9_sumTo 193 = .ok (.iload 6, 2) := by decide +kernel
theorem dX9_sumTo_195 : decode cX9_sumTo 195 = .ok (.iadd, 1) := by decide +kernel
theorem dX9_sumTo_196 : decode cX9_sumTo 196 = .ok (.aload_n 0, 1) := by decide +kernel
theorem dX9_sumTo_197 : decode cX9_sumTo 197 = .ok (.getfield 72, 3) := by decide +kernel
theorem dX9_sumTo_200 : decode cX9_sumTo 200 = .ok (.iconst 5, 1) := by decide +kernel
theorem dX9_sumTo_201 : decode cX9_sumTo 201 = .ok (.iload_n 3, 1) := by decide +kernel
theorem dX9_sumTo_202 : decode cX9_sumTo 202 = .ok (.imul, 1) := by decide +kernel
theorem dX9_sumTo_203 : decode cX9_sumTo 203 = .ok (.iload 6, 2) := by decide +kernel
theorem dX9_sumTo_205 : decode cX9_sumTo 205 = .ok (.iadd, 1) := by decide +kernel
theorem dX9_sumTo_206 : decode cX9_sumTo 206 = .ok (.iaload, 1) := by decide +kernel
theorem dX9_sumTo_207 : decode cX9_sumTo 207 = .ok (.iastore, 1) := by decide +kernel
theorem dX9_sumTo_208 : decode cX9_sumTo 208 = .ok (.aload_n 0, 1) := by decide +kernel
theorem dX9_sumTo_209 : decode cX9_sumTo 209 = .ok (.getfield 72, 3) := by decide +kernel
theorem dX9_sumTo_212 : decode cX9_sumTo 212 = .ok (.iconst 5, 1) := by decide +kernel
theorem dX9_sumTo_213 : decode cX9_sumTo 213 = .ok (.iload_n 3, 1) := by decide +kernel
theorem dX9_sumTo_214 : decode cX9_sumTo 214 = .ok (.imul, 1) := by decide +kernel
theorem dX9_sumTo_215 : decode cX9_sumTo 215 = .ok (.iload 6, 2) := by decide +kernel
theorem dX9_sumTo_217 : decode cX9_sumTo 217 = .ok (.iadd, 1) := by decide +kernel
theorem dX9_sumTo_218 : decode cX9_sumTo 218 = .ok (.iload 7, 2) := by decide +kernel
theorem dX9_sumTo_220 : decode cX9_sumTo 220 = .ok (.iastore, 1) := by decide +kernel
theorem dX9_sumTo_221 : decode cX9_sumTo 221 = .ok (.iinc 6 1, 3) := by decide +kernel
theorem dX9_sumTo_224 : decode cX9_sumTo 224 = .ok (.goto (-67), 3) := by decide +kernel
theorem dX9_sumTo_227 : decode cX9_sumTo 227 = .ok (.iconst 0, 1) := by decide +kernel
theorem dX9_sumTo_228 : decode cX9_sumTo 228 = .ok (.istore 6, 2) := by decide +kernel
theorem dX9_sumTo_230 : decode cX9_sumTo 230 = .ok (.iload 6, 2) := by decide +kernel
theorem dX9_sumTo_232 : decode cX9_sumTo 232 = .ok (.bipush 81, 2) := by decide +kernel
theorem dX9_sumTo_234 : decode cX9_sumTo 234 = .ok (.if_icmp .ge 106, 3) := by decide +kernel
theorem dX9_sumTo_237 : decode cX9_sumTo 237 = .ok (.iload 6, 2) := by decide +kernel
theorem dX9_sumTo_239 : decode cX9_sumTo 239 = .ok (.iload_n 3, 1) := by decide +kernel
theorem dX9_sumTo_240 : decode cX9_sumTo 240 = .ok (.if_icmp .ne 7, 3) := by decide +kernel
theorem dX9_sumTo_243 : decode cX9_sumTo 243 = .ok (.iconst 0, 1) := by decide +kernel
theorem dX9_sumTo_244 : decode cX9_sumTo 244 = .ok (.goto 24, 3) := by decide +kernel
theorem dX9_sumTo_247 : decode cX9_sumTo 247 = .ok (.aload_n 0, 1) := by decide +kernel
theorem dX9_sumTo_248 : decode cX9_sumTo 248 = .ok (.getfield 7, 3) := by decide +kernel
theorem dX9_sumTo_251 : decode cX9_sumTo 251 = .ok (.aload_n 0, 1) := by decide +kernel
theorem dX9_sumTo_252 : decode cX9_sumTo 252 = .ok (.getfield 72, 3) := by decide +kernel
theorem dX9_sumTo_255 : decode cX9_sumTo 255 = .ok (.iconst 5, 1) := by decide +kernel
theorem dX9_sumTo_256 : decode cX9_sumTo 256 = .ok (.iload 6, 2) := by decide +kernel
theorem dX9_sumTo_258 : decode cX9_sumTo 258 = .ok (.imul, 1) := by decide +kernel
theorem dX9_sumTo_259 : decode cX9_sumTo 259 = .ok (.iload_n 3, 1) := by decide +kernel
theorem dX9_sumTo_260 : decode cX9_sumTo 260 = .ok (.iadd, 1) := by decide +kernel
theorem dX9_sumTo_261 : decode cX9_sumTo 261 = .ok (.iaload, 1) := by decide +kernel
theorem dX9_sumTo_262 : decode cX9_sumTo 262 = .ok (.isub, 1) := by decide +kernel
theorem dX9_sumTo_263 : decode cX9_sumTo 263 = .ok (.aload_n 0, 1) := by decide +kernel
theorem dX9_sumTo_264 : decode cX9_sumTo 264 = .ok (.getfield 7, 3) := by decide +kernel
theorem dX9_sumTo_267 : decode cX9_sumTo 267 = .ok (.irem, 1) := by decide +kernel
theorem dX9_sumTo_268 : decode cX9_sumTo 268 = .ok (.istore 7, 2) := by decide +kernel
theorem dX9_sumTo_270 : decode cX9_sumTo 270 = .ok (.iconst 0, 1) := by decide +kernel
theorem dX9_sumTo_271 : decode cX9_sumTo 271 = .ok (.istore 8, 2) := by decide +kernel
theorem dX9_sumTo_273 : decode cX9_sumTo 273 = .ok (.iload 8, 2) := by decide +kernel
theorem dX9_sumTo_275 : decode cX9_sumTo 275 = .ok (.iconst 5, 1) := by decide +kernel
theorem dX9_sumTo_276 : decode cX9_sumTo 276 = .ok (.if_icmp .ge 58, 3) := by decide +kernel
theorem dX9_sumTo_279 : decode cX9_sumTo 279 = .ok (.iload 7, 2) := by decide +kernel
theorem dX9_sumTo_281 : decode cX9_sumTo 281 = .ok (.ifCond .le 53, 3) := by decide +kernel
theorem dX9_sumTo_284 : decode cX9_sumTo 284 = .ok (.aload_n 0, 1) := by decide +kernel
theorem dX9_sumTo_285 : decode cX9_sumTo 285 = .ok (.getfield 72, 3) := by decide +kernel
theorem dX9_sumTo_288 : decode cX9_sumTo 288 = .ok (.iconst 5, 1) := by decide +kernel
theorem dX9_sumTo_289 : decode cX9_sumTo 289 = .ok (.iload 6, 2) := by decide +kernel
theorem dX9_sumTo_291 : decode cX9_sumTo 291 = .ok (.imul, 1) := by decide +kernel
theorem dX9_sumTo_292 : decode cX9_sumTo 292 = .ok (.iload 8, 2) := by decide +kernel
theorem dX9_sumTo_294 : decode cX9_sumTo 294 = .ok (.iadd, 1) := by decide +kernel
theorem dX9_sumTo_295 : decode cX9_sumTo 295 = .ok (.aload_n 0, 1) := by decide +kernel
theorem dX9_sumTo_296 : decode cX9_sumTo 296 = .ok (.getfield 72, 3) := by decide +kernel
theorem dX9_sumTo_299 : decode cX9_sumTo 299 = .ok (.iconst 5, 1) := by decide +kernel
theorem dX9_sumTo_300 : decode cX9_sumTo 300 = .ok (.iload 6, 2) := by decide +kernel
theorem dX9_sumTo_302 : decode cX9_sumTo 302 = .ok (.imul, 1) := by decide +kernel
theorem dX9_sumTo_303 : decode cX9_sumTo 303 = .ok (.iload 8, 2) := by decide +kernel
theorem dX9_sumTo_305 : decode cX9_sumTo 305 = .ok (.iadd, 1) := by decide +kernel
theorem dX9_sumTo_306 : decode cX9_sumTo 306 = .ok (.iaload, 1) := by decide +kernel
theorem dX9_sumTo_307 : decode cX9_sumTo 307 = .ok (.iload 7, 2) := by decide +kernel
theorem dX9_sumTo_309 : decode cX9_sumTo 309 = .ok (.aload_n 0, 1) := by decide +kernel
theorem dX9_sumTo_310 : decode cX9_sumTo 310 = .ok (.getfield 72, 3) := by decide +kernel
theorem dX9_sumTo_313 : decode cX9_sumTo 313 = .ok (.iconst 5, 1) := by decide +kernel
theorem dX9_sumTo_314 : decode cX9_sumTo 314 = .ok (.iload_n 3, 1) := by decide +kernel
theorem dX9_sumTo_315 : decode cX9_sumTo 315 = .ok (.imul, 1) := by decide +kernel
theorem dX9_sumTo_316 : decode cX9_sumTo 316 = .ok (.iload 8, 2) := by decide +kernel
theorem dX9_sumTo_318 : decode cX9_sumTo 318 = .ok (.iadd, 1) := by decide +kernel
theorem dX9_sumTo_319 : decode cX9_sumTo 319 = .ok (.iaload, 1) := by decide +kernel
theorem dX9_sumTo_320 : decode cX9_sumTo 320 = .ok (.imul, 1) := by decide +kernel
theorem dX9_sumTo_321 : decode cX9_sumTo 321 = .ok (.iadd, 1) := by decide +kernel
theorem dX9_sumTo_322 : decode cX9_sumTo 322 = .ok (.aload_n 0, 1) := by decide +kernel
theorem dX9_sumTo_323 : decode cX9_sumTo 323 = .ok (.getfield 7, 3) := by decide +kernel
theorem dX9_sumTo_326 : decode cX9_sumTo 326 = .ok (.irem, 1) := by decide +kernel
theorem dX9_sumTo_327 : decode cX9_sumTo 327 = .ok (.iastore, 1) := by decide +kernel
theorem dX9_sumTo_328 : decode cX9_sumTo 328 = .ok (.iinc 8 1, 3) := by decide +kernel
theorem dX9_sumTo_331 : decode cX9_sumTo 331 = .ok (.goto (-58), 3) := by decide +kernel
theorem dX9_sumTo_334 : decode cX9_sumTo 334 = .ok (.iinc 6 1, 3) := by decide +kernel
theorem dX9_sumTo_337 : decode cX9_sumTo 337 = .ok (.goto (-107), 3) := by decide +kernel
theorem dX9_sumTo_340 : decode cX9_sumTo 340 = .ok (.iinc 3 1, 3) := by decide +kernel
theorem dX9_sumTo_343 : decode cX9_sumTo 343 = .ok (.goto (-234), 3) := by decide +kernel
theorem dX9_sumTo_346 : decode cX9_sumTo 346 = .ok (.iconst 0, 1) := by decide +kernel
theorem dX9_sumTo_347 : decode cX9_sumTo 347 = .ok (.istore_n 3, 1) := by decide +kernel
theorem dX9_sumTo_348 : decode cX9_sumTo 348 = .ok (.iload_n 3, 1) := by decide +kernel
theorem dX9_sumTo_349 : decode cX9_sumTo 349 = .ok (.iload_n 1, 1) := by decide +kernel
theorem dX9_sumTo_350 : decode cX9_sumTo 350 = .ok (.if_icmp .ge 25, 3) := by decide +kernel
theorem dX9_sumTo_353 : decode cX9_sumTo 353 = .ok (.aload_n 0, 1) := by decide +kernel
theorem dX9_sumTo_354 : decode cX9_sumTo 354 = .ok (.getfield 75, 3) := by decide +kernel
theorem dX9_sumTo_357 : decode cX9_sumTo 357 = .ok (.iload_n 3, 1) := by decide +kernel
theorem dX9_sumTo_358 : decode cX9_sumTo 358 = .ok (.aload_n 0, 1) := by decide +kernel
theorem dX9_sumTo_359 : decode cX9_sumTo 359 = .ok (.getfield 72, 3) := by decide +kernel
theorem dX9_sumTo_362 : decode cX9_sumTo 362 = .ok (.iconst 5, 1) := by decide +kernel
theorem dX9_sumTo_363 : decode cX9_sumTo 363 = .ok (.iload_n 3, 1) := by decide +kernel
theorem dX9_sumTo_364 : decode cX9_sumTo 364 = .ok (.imul, 1) := by decide +kernel
theorem dX9_sumTo_365 : decode cX9_sumTo 365 = .ok (.iconst 4, 1) := by decide +kernel
theorem dX9_sumTo_366 : decode cX9_sumTo 366 = .ok (.iadd, 1) := by decide +kernel
theorem dX9_sumTo_367 : decode cX9_sumTo 367 = .ok (.iaload, 1) := by decide +kernel
theorem dX9_sumTo_368 : decode cX9_sumTo 368 = .ok (.iastore, 1) := by decide +kernel
theorem dX9_sumTo_369 : decode cX9_sumTo 369 = .ok (.iinc 3 1, 3) := by decide +kernel
theorem dX9_sumTo_372 : decode cX9_sumTo 372 = .ok (.goto (-24), 3) := by decide +kernel
theorem dX9_sumTo_375 : decode cX9_sumTo 375 = .ok (.return_, 1) := by decide +kernel
theorem dX9_find_0 : decode cX9_find 0 = .ok (.aload_n 0, 1) := by decide +kernel
theorem dX9_find_1 : decode cX9_find 1 = .ok (.iconst 0, 1) := by decide +kernel
theorem dX9_find_2 : decode cX9_find 2 = .ok (.putfield 91, 3) := by decide +kernel
theorem dX9_find_5 : decode cX9_find 5 = .ok (.aload_n 0, 1) := by decide +kernel
theorem dX9_find_6 : decode cX9_find 6 = .ok (.invokevirtual 228, 3) := by decide +kernel
theorem dX9_find_9 : decode cX9_find 9 = .ok (.istore_n 1, 1) := by decide +kernel
theorem dX9_find_10 : decode cX9_find 10 = .ok (.iload_n 1, 1) := by decide +kernel
theorem dX9_find_11 : decode cX9_find 11 = .ok (.ifCond .ge 5, 3) := by decide +kernel
theorem dX9_find_14 : decode cX9_find 14 = .ok (.iload_n 1, 1) := by decide +kernel
theorem dX9_find_15 : decode cX9_find 15 = .ok (.ireturn, 1) := by decide +kernel
theorem dX9_find_16 : decode cX9_find 16 = .ok (.aload_n 0, 1) := by decide +kernel
theorem dX9_find_17 : decode cX9_find 17 = .ok (.iload_n 1, 1) := by decide +kernel
theorem dX9_find_18 : decode cX9_find 18 = .ok (.putfield 85, 3) := by decide +kernel
theorem dX9_find_21 : decode cX9_find 21 = .ok (.iconst 0, 1) := by decide +kernel
theorem dX9_find_22 : decode cX9_find 22 = .ok (.istore_n 2, 1) := by decide +kernel
theorem dX9_find_23 : decode cX9_find 23 = .ok (.iload_n 2, 1) := by decide +kernel
theorem dX9_find_24 : decode cX9_find 24 = .ok (.iload_n 1, 1) := by decide +kernel
theorem dX9_find_25 : decode cX9_find 25 = .ok (.if_icmp .ge 50, 3) := by decide +kernel
theorem dX9_find_28 : decode cX9_find 28 = .ok (.aload_n 0, 1) := by decide +kernel
theorem dX9_find_29 : decode cX9_find 29 = .ok (.iload_n 2, 1) := by decide +kernel
theorem dX9_find_30 : decode cX9_find 30 = .ok (.iconst 0, 1) := by decide +kernel
theorem dX9_find_31 : decode cX9_find 31 = .ok (.aload_n 0, 1) := by decide +kernel
theorem dX9_find_32 : decode cX9_find 32 = .ok (.getfield 54, 3) := by decide +kernel
theorem dX9_find_35 : decode cX9_find 35 = .ok (.aload_n 0, 1) := by decide +kernel
theorem dX9_find_36 : decode cX9_find 36 = .ok (.getfield 60, 3) := by decide +kernel
theorem dX9_find_39 : decode cX9_find 39 = .ok (.iload_n 2, 1) := by decide +kernel
theorem dX9_find_40 : decode cX9_find 40 = .ok (.iaload, 1) := by decide +kernel
theorem dX9_find_41 : decode cX9_find 41 = .ok (.iaload, 1) := by decide +kernel
theorem dX9_find_42 : decode cX9_find 42 = .ok (.invokevirtual 123, 3) := by decide +kernel
theorem dX9_find_45 : decode cX9_find 45 = .ok (.aload_n 0, 1) := by decide +kernel
theorem dX9_find_46 : decode cX9_find 46 = .ok (.iload_n 2, 1) := by decide +kernel
theorem dX9_find_47 : decode cX9_find 47 = .ok (.iconst 1, 1) := by decide +kernel
theorem dX9_find_48 : decode cX9_find 48 = .ok (.aload_n 0, 1) := by decide +kernel
theorem dX9_find_49 : decode cX9_find 49 = .ok (.getfield 57, 3) := by decide +kernel
theorem dX9_find_52 : decode cX9_find 52 = .ok (.aload_n 0, 1) := by decide +kernel
theorem dX9_find_53 : decode cX9_find 53 = .ok (.getfield 60, 3) := by decide +kernel
theorem dX9_find_56 : decode cX9_find 56 = .ok (.iload_n 2, 1) := by decide +kernel
theorem dX9_find_57 : decode cX9_find 57 = .ok (.iaload, 1) := by decide +kernel
theorem dX9_find_58 : decode cX9_find 58 = .ok (.iaload, 1) := by decide +kernel
theorem dX9_find_59 : decode cX9_find 59 = .ok (.invokevirtual 123, 3) := by decide +kernel
theorem dX9_find_62 : decode cX9_find 62 = .ok (.aload_n 0, 1) := by decide +kernel
theorem dX9_find_63 : decode cX9_find 63 = .ok (.iload_n 2, 1) := by decide +kernel
theorem dX9_find_64 : decode cX9_find 64 = .ok (.iconst 2, 1) := by decide +kernel
theorem dX9_find_65 : decode cX9_find 65 = .ok (.iconst 0, 1) := by decide +kernel
theorem dX9_find_66 : decode cX9_find 66 = .ok (.invokevirtual 123, 3) := by decide +kernel
theorem dX9_find_69 : decode cX9_find 69 = .ok (.iinc 2 1, 3) := by decide +kernel
theorem dX9_find_72 : decode cX9_find 72 = .ok (.goto (-49), 3) := by decide +kernel
theorem dX9_find_75 : decode cX9_find 75 = .ok (.iconst 0, 1) := by decide +kernel
theorem dX9_find_76 : decode cX9_find 76 = .ok (.istore_n 2, 1) := by decide +kernel
theorem dX9_find_77 : decode cX9_find 77 = .ok (.iload_n 2, 1) := by decide +kernel
theorem dX9_find_78 : decode cX9_find 78 = .ok (.aload_n 0, 1) := by decide +kernel
theorem dX9_find_79 : decode cX9_find 79 = .ok (.getfield 13, 3) := by decide +kernel
theorem dX9_find_82 : decode cX9_find 82 = .ok (.iconst 2, 1) := by decide +kernel
theorem dX9_find_83 : decode cX9_find 83 = .ok (.iaload, 1) := by decide +kernel
theorem dX9_find_84 : decode cX9_find 84 = .ok (.if_icmp .ge 48, 3) := by decide +kernel
theorem dX9_find_87 : decode cX9_find 87 = .ok (.aload_n 0, 1) := by decide +kernel
theorem dX9_find_88 : decode cX9_find 88 = .ok (.iload_n 1, 1) := by decide +kernel
theorem dX9_find_89 : decode cX9_find 89 = .ok (.iload_n 2, 1) := by decide +kernel
theorem dX9_find_90 : decode cX9_find 90 = .ok (.invokevirtual 231, 3) := by decide +kernel
theorem dX9_find_93 : decode cX9_find 93 = .ok (.iconst 0, 1) := by decide +kernel
theorem dX9_find_94 : decode cX9_find 94 = .ok (.istore_n 3, 1) := by decide +kernel
theorem dX9_find_95 : decode cX9_find 95 = .ok (.iload_n 3, 1) := by decide +kernel
theorem dX9_find_96 : decode cX9_find 96 = .ok (.iload_n 1, 1) := by decide +kernel
theorem dX9_find_97 : decode cX9_find 97 = .ok (.if_icmp .ge 29, 3) := by decide +kernel
theorem dX9_find_100 : decode cX9_find 100 = .ok (.aload_n 0, 1) := by decide +kernel
theorem dX9_find_101 : decode cX9_find 101 = .ok (.getfield 20, 3) := by decide +kernel
theorem dX9_find_104 : decode cX9_find 104 = .ok (.bipush 27, 2) := by decide +kernel
theorem dX9_find_106 : decode cX9_find 106 = .ok (.iload_n 3, 1) := by decide +kernel
theorem dX9_find_107 : decode cX9_find 107 = .ok (.imul, 1) := by decide +kernel
theorem dX9_find_108 : decode cX9_find 108 = .ok (.bipush 18, 2) := by decide +kernel
theorem dX9_find_110 : decode cX9_find 110 = .ok (.iadd, 1) := by decide +kernel
theorem dX9_find_111 : decode cX9_find 111 = .ok (.iload_n 2, 1) := by decide +kernel
theorem dX9_find_112 : decode cX9_find 112 = .ok (.iadd, 1) := by decide +kernel
theorem dX9_find_113 : decode cX9_find 113 = .ok (.aload_n 0, 1) := by decide +kernel
theorem dX9_find_114 : decode cX9_find 114 = .ok (.getfield 75, 3) := by decide +kernel
theorem dX9_find_117 : decode cX9_find 117 = .ok (.iload_n 3, 1) := by decide +kernel
theorem dX9_find_118 : decode cX9_find 118 = .ok (.iaload, 1) := by decide +kernel
theorem dX9_find_119 : decode cX9_find 119 = .ok (.iastore, 1) := by decide +kernel
theorem dX9_find_120 : decode cX9_find 120 = .ok (.iinc 3 1, 3) := by decide +kernel
theorem dX9_find_123 : decode cX9_find 123 = .ok (.goto (-28), 3) := by decide +kernel
theorem dX9_find_126 : decode cX9_find 126 = .ok (.iinc 2 1, 3) := by decide +kernel
theorem dX9_find_129 : decode cX9_find 129 = .ok (.goto (-52), 3) := by decide +kernel
theorem dX9_find_132 : decode cX9_find 132 = .ok (.iload_n 1, 1) := by decide +kernel
theorem dX9_find_133 : decode cX9_find 133 = .ok (.ireturn, 1) := by decide +kernel
theorem dX9_hand_0 : decode cX9_hand 0 = .ok (.iload_n 1, 1) := by decide +kernel
theorem dX9_hand_1 : decode cX9_hand 1 = .ok (.i2l, 1) := by decide +kernel
theorem dX9_hand_2 : decode cX9_hand 2 = .ok (.lconst 0, 1) := by decide +kernel
theorem dX9_hand_3 : decode cX9_hand 3 = .ok (.lconst 1, 1) := by decide +kernel
theorem dX9_hand_4 : decode cX9_hand 4 = .ok (.invokestatic 97, 3) := by decide +kernel
theorem dX9_hand_7 : decode cX9_hand 7 = .ok (.ifCond .eq 37, 3) := by decide +kernel
theorem dX9_hand_10 : decode cX9_hand 10 = .ok (.iload_n 2, 1) := by decide +kernel
theorem dX9_hand_11 : decode cX9_hand 11 = .ok (.i2l, 1) := by decide +kernel
theorem dX9_hand_12 : decode cX9_hand 12 = .ok (.lconst 0, 1) := by decide +kernel
theorem dX9_hand_13 : decode cX9_hand 13 = .ok (.aload_n 0, 1) := by decide +kernel
theorem dX9_hand_14 : decode cX9_hand 14 = .ok (.getfield 13, 3) := by decide +kernel
theorem dX9_hand_17 : decode cX9_hand 17 = .ok (.iload_n 1, 1) := by decide +kernel
theorem dX9_hand_18 : decode cX9_hand 18 = .ok (.iaload, 1) := by decide +kernel
theorem dX9_hand_19 : decode cX9_hand 19 = .ok (.iconst 1, 1) := by decide +kernel
theorem dX9_hand_20 : decode cX9_hand 20 = .ok (.isub, 1) := by decide +kernel
theorem dX9_hand_21 : decode cX9_hand 21 = .ok (.i2l, 1) := by decide +kernel
theorem dX9_hand_22 : decode cX9_hand 22 = .ok (.invokestatic 97, 3) := by decide +kernel
theorem dX9_hand_25 : decode cX9_hand 25 = .ok (.ifCond .eq 19, 3) := by decide +kernel
theorem dX9_hand_28 : decode cX9_hand 28 = .ok (.iload_n 3, 1) := by decide +kernel
theorem dX9_hand_29 : decode cX9_hand 29 = .ok (.i2l, 1) := by decide +kernel
theorem dX9_hand_30 : decode cX9_hand 30 = .ok (.lconst 0, 1) := by decide +kernel
theorem dX9_hand_31 : decode cX9_hand 31 = .ok (.aload_n 0, 1) := by decide +kernel
theorem dX9_hand_32 : decode cX9_hand 32 = .ok (.getfield 7, 3) := by decide +kernel
theorem dX9_hand_35 : decode cX9_hand 35 = .ok (.iconst 1, 1) := by decide +kernel
theorem dX9_hand_36 : decode cX9_hand 36 = .ok (.isub, 1) := by decide +kernel
theorem dX9_hand_37 : decode cX9_hand 37 = .ok (.i2l, 1) := by decide +kernel
theorem dX9_hand_38 : decode cX9_hand 38 = .ok (.invokestatic 97, 3) := by decide +kernel
theorem dX9_hand_41 : decode cX9_hand 41 = .ok (.ifCond .ne 5, 3) := by decide +kernel
theorem dX9_hand_44 : decode cX9_hand 44 = .ok (.iconst (-1), 1) := by decide +kernel
theorem dX9_hand_45 : decode cX9_hand 45 = .ok (.ireturn, 1) := by decide +kernel
theorem dX9_hand_46 : decode cX9_hand 46 = .ok (.aload_n 0, 1) := by decide +kernel
theorem dX9_hand_47 : decode cX9_hand 47 = .ok (.getfield 23, 3) := by decide +kernel
theorem dX9_hand_50 : decode cX9_hand 50 = .ok (.bipush 9, 2) := by decide +kernel
theorem dX9_hand_52 : decode cX9_hand 52 = .ok (.iload_n 1, 1) := by decide +kernel
theorem dX9_hand_53 : decode cX9_hand 53 = .ok (.imul, 1) := by decide +kernel
theorem dX9_hand_54 : decode cX9_hand 54 = .ok (.iload_n 2, 1) := by decide +kernel
theorem dX9_hand_55 : decode cX9_hand 55 = .ok (.iadd, 1) := by decide +kernel
theorem dX9_hand_56 : decode cX9_hand 56 = .ok (.iload_n 3, 1) := by decide +kernel
theorem dX9_hand_57 : decode cX9_hand 57 = .ok (.iastore, 1) := by decide +kernel
theorem dX9_hand_58 : decode cX9_hand 58 = .ok (.iconst 1, 1) := by decide +kernel
theorem dX9_hand_59 : decode cX9_hand 59 = .ok (.ireturn, 1) := by decide +kernel
theorem dX9_byBox_0 : decode cX9_byBox 0 = .ok (.iconst 0, 1) := by decide +kernel
theorem dX9_byBox_1 : decode cX9_byBox 1 = .ok (.istore_n 2, 1) := by decide +kernel
theorem dX9_byBox_2 : decode cX9_byBox 2 = .ok (.iconst 0, 1) := by decide +kernel
theorem dX9_byBox_3 : decode cX9_byBox 3 = .ok (.istore_n 3, 1) := by decide +kernel
theorem dX9_byBox_4 : decode cX9_byBox 4 = .ok (.iload_n 3, 1) := by decide +kernel
theorem dX9_byBox_5 : decode cX9_byBox 5 = .ok (.bipush 9, 2) := by decide +kernel
theorem dX9_byBox_7 : decode cX9_byBox 7 = .ok (.if_icmp .ge 63, 3) := by decide +kernel
theorem dX9_byBox_10 : decode cX9_byBox 10 = .ok (.iconst 0, 1) := by decide +kernel
theorem dX9_byBox_11 : decode cX9_byBox 11 = .ok (.istore 4, 2) := by decide +kernel
theorem dX9_byBox_13 : decode cX9_byBox 13 = .ok (.iload 4, 2) := by decide +kernel
theorem dX9_byBox_15 : decode cX9_byBox 15 = .ok (.bipush 9, 2) := by decide +kernel
theorem dX9_byBox_17 : decode cX9_byBox 17 = .ok (.if_icmp .ge 47, 3) := by decide +kernel
theorem dX9_byBox_20 : decode cX9_byBox 20 = .ok (.iload_n 2, 1) := by decide +kernel
theorem dX9_byBox_21 : decode cX9_byBox 21 = .ok (.aload_n 0, 1) := by decide +kernel
theorem dX9_byBox_22 : decode cX9_byBox 22 = .ok (.getfield 17, 3) := by decide +kernel
theorem dX9_byBox_25 : decode cX9_byBox 25 = .ok (.bipush 81, 2) := by decide +kernel
theorem dX9_byBox_27 : decode cX9_byBox 27 = .ok (.iload_n 3, 1) := by decide +kernel
theorem dX9_byBox_28 : decode cX9_byBox 28 = .ok (.imul, 1) := by decide +kernel
theorem dX9_byBox_29 : decode cX9_byBox 29 = .ok (.bipush 9, 2) := by decide +kernel
theorem dX9_byBox_31 : decode cX9_byBox 31 = .ok (.iload 4, 2) := by decide +kernel
theorem dX9_byBox_33 : decode cX9_byBox 33 = .ok (.imul, 1) := by decide +kernel
theorem dX9_byBox_34 : decode cX9_byBox 34 = .ok (.iadd, 1) := by decide +kernel
theorem dX9_byBox_35 : decode cX9_byBox 35 = .ok (.iload_n 1, 1) := by decide +kernel
theorem dX9_byBox_36 : decode cX9_byBox 36 = .ok (.iadd, 1) := by decide +kernel
theorem dX9_byBox_37 : decode cX9_byBox 37 = .ok (.iaload, 1) := by decide +kernel
theorem dX9_byBox_38 : decode cX9_byBox 38 = .ok (.aload_n 0, 1) := by decide +kernel
theorem dX9_byBox_39 : decode cX9_byBox 39 = .ok (.getfield 23, 3) := by decide +kernel
theorem dX9_byBox_42 : decode cX9_byBox 42 = .ok (.iload_n 3, 1) := by decide +kernel
theorem dX9_byBox_43 : decode cX9_byBox 43 = .ok (.iaload, 1) := by decide +kernel
theorem dX9_byBox_44 : decode cX9_byBox 44 = .ok (.imul, 1) := by decide +kernel
theorem dX9_byBox_45 : decode cX9_byBox 45 = .ok (.aload_n 0, 1) := by decide +kernel
theorem dX9_byBox_46 : decode cX9_byBox 46 = .ok (.getfield 23, 3) := by decide +kernel
theorem dX9_byBox_49 : decode cX9_byBox 49 = .ok (.bipush 9, 2) := by decide +kernel
theorem dX9_byBox_51 : decode cX9_byBox 51 = .ok (.iload 4, 2) := by decide +kernel
theorem dX9_byBox_53 : decode cX9_byBox 53 = .ok (.iadd, 1) := by decide +kernel
theorem dX9_byBox_54 : decode cX9_byBox 54 = .ok (.iaload, 1) := by decide +kernel
theorem dX9_byBox_55 : decode cX9_byBox 55 = .ok (.imul, 1) := by decide +kernel
theorem dX9_byBox_56 : decode cX9_byBox 56 = .ok (.iadd, 1) := by decide +kernel
theorem dX9_byBox_57 : decode cX9_byBox 57 = .ok (.istore_n 2, 1) := by decide +kernel
theorem dX9_byBox_58 : decode cX9_byBox 58 = .ok (.iinc 4 1, 3) := by decide +kernel
theorem dX9_byBox_61 : decode cX9_byBox 61 = .ok (.goto (-48), 3) := by decide +kernel
theorem dX9_byBox_64 : decode cX9_byBox 64 = .ok (.iinc 3 1, 3) := by decide +kernel
theorem dX9_byBox_67 : decode cX9_byBox 67 = .ok (.goto (-63), 3) := by decide +kernel
theorem dX9_byBox_70 : decode cX9_byBox 70 = .ok (.iload_n 2, 1) := by decide +kernel
theorem dX9_byBox_71 : decode cX9_byBox 71 = .ok (.aload_n 0, 1) := by decide +kernel
theorem dX9_byBox_72 : decode cX9_byBox 72 = .ok (.getfield 7, 3) := by decide +kernel
theorem dX9_byBox_75 : decode cX9_byBox 75 = .ok (.irem, 1) := by decide +kernel
theorem dX9_byBox_76 : decode cX9_byBox 76 = .ok (.ireturn, 1) := by decide +kernel
theorem dX9_byScheme_0 : decode cX9_byScheme 0 = .ok (.iconst 0, 1) := by decide +kernel
theorem dX9_byScheme_1 : decode cX9_byScheme 1 = .ok (.istore_n 2, 1) := by decide +kernel
theorem dX9_byScheme_2 : decode cX9_byScheme 2 = .ok (.iconst 0, 1) := by decide +kernel
theorem dX9_byScheme_3 : decode cX9_byScheme 3 = .ok (.istore_n 3, 1) := by decide +kernel
theorem dX9_byScheme_4 : decode cX9_byScheme 4 = .ok (.iload_n 3, 1) := by decide +kernel
theorem dX9_byScheme_5 : decode cX9_byScheme 5 = .ok (.aload_n 0, 1) := by decide +kernel
theorem dX9_byScheme_6 : decode cX9_byScheme 6 = .ok (.getfield 85, 3) := by decide +kernel
theorem dX9_byScheme_9 : decode cX9_byScheme 9 = .ok (.if_icmp .ge 120, 3) := by decide +kernel
theorem dX9_byScheme_12 : decode cX9_byScheme 12 = .ok (.iconst 0, 1) := by decide +kernel
theorem dX9_byScheme_13 : decode cX9_byScheme 13 = .ok (.istore 4, 2) := by decide +kernel
theorem dX9_byScheme_15 : decode cX9_byScheme 15 = .ok (.iconst 0, 1) := by decide +kernel
theorem dX9_byScheme_16 : decode cX9_byScheme 16 = .ok (.istore 5, 2) := by decide +kernel
theorem dX9_byScheme_18 : decode cX9_byScheme 18 = .ok (.iconst 0, 1) := by decide +kernel
theorem dX9_byScheme_19 : decode cX9_byScheme 19 = .ok (.istore 6, 2) := by decide +kernel
theorem dX9_byScheme_21 : decode cX9_byScheme 21 = .ok (.iload 6, 2) := by decide +kernel
theorem dX9_byScheme_23 : decode cX9_byScheme 23 = .ok (.bipush 9, 2) := by decide +kernel
theorem dX9_byScheme_25 : decode cX9_byScheme 25 = .ok (.if_icmp .ge 65, 3) := by decide +kernel
theorem dX9_byScheme_28 : decode cX9_byScheme 28 = .ok (.iload 4, 2) := by decide +kernel
theorem dX9_byScheme_30 : decode cX9_byScheme 30 = .ok (.aload_n 0, 1) := by decide +kernel
theorem dX9_byScheme_31 : decode cX9_byScheme 31 = .ok (.getfield 20, 3) := by decide +kernel
theorem dX9_byScheme_34 : decode cX9_byScheme 34 = .ok (.bipush 27, 2) := by decide +kernel
theorem dX9_byScheme_36 : decode cX9_byScheme 36 = .ok (.iload_n 3, 1) := by decide +kernel
theorem dX9_byScheme_37 : decode cX9_byScheme 37 = .ok (.imul, 1) := by decide +kernel
theorem dX9_byScheme_38 : decode cX9_byScheme 38 = .ok (.iload 6, 2) := by decide +kernel
theorem dX9_byScheme_40 : decode cX9_byScheme 40 = .ok (.iadd, 1) := by decide +kernel
theorem dX9_byScheme_41 : decode cX9_byScheme 41 = .ok (.iaload, 1) := by decide +kernel
theorem dX9_byScheme_42 : decode cX9_byScheme 42 = .ok (.aload_n 0, 1) := by decide +kernel
theorem dX9_byScheme_43 : decode cX9_byScheme 43 = .ok (.getfield 23, 3) := by decide +kernel
theorem dX9_byScheme_46 : decode cX9_byScheme 46 = .ok (.iload 6, 2) := by decide +kernel
theorem dX9_byScheme_48 : decode cX9_byScheme 48 = .ok (.iaload, 1) := by decide +kernel
theorem dX9_byScheme_49 : decode cX9_byScheme 49 = .ok (.imul, 1) := by decide +kernel
theorem dX9_byScheme_50 : decode cX9_byScheme 50 = .ok (.iadd, 1) := by decide +kernel
theorem dX9_byScheme_51 : decode cX9_byScheme 51 = .ok (.istore 4, 2) := by decide +kernel
theorem dX9_byScheme_53 : decode cX9_byScheme 53 = .ok (.iload 5, 2) := by decide +kernel
theorem dX9_byScheme_55 : decode cX9_byScheme 55 = .ok (.aload_n 0, 1) := by decide +kernel
theorem dX9_byScheme_56 : decode cX9_byScheme 56 = .ok (.getfield 20, 3) := by decide +kernel
theorem dX9_byScheme_59 : decode cX9_byScheme 59 = .ok (.bipush 27, 2) := by decide +kernel
theorem dX9_byScheme_61 : decode cX9_byScheme 61 = .ok (.iload_n 3, 1) := by decide +kernel
theorem dX9_byScheme_62 : decode cX9_byScheme 62 = .ok (.imul, 1) := by decide +kernel
theorem dX9_byScheme_63 : decode cX9_byScheme 63 = .ok (.bipush 9, 2) := by decide +kernel
theorem dX9_byScheme_65 : decode cX9_byScheme 65 = .ok (.iadd, 1) := by decide +kernel
theorem dX9_byScheme_66 : decode cX9_byScheme 66 = .ok (.iload 6, 2) := by decide +kernel
theorem dX9_byScheme_68 : decode cX9_byScheme 68 = .ok (.iadd, 1) := by decide +kernel
theorem dX9_byScheme_69 : decode cX9_byScheme 69 = .ok (.iaload, 1) := by decide +kernel
theorem dX9_byScheme_70 : decode cX9_byScheme 70 = .ok (.aload_n 0, 1) := by decide +kernel
theorem dX9_byScheme_71 : decode cX9_byScheme 71 = .ok (.getfield 23, 3) := by decide +kernel
theorem dX9_byScheme_74 : decode cX9_byScheme 74 = .ok (.bipush 9, 2) := by decide +kernel
theorem dX9_byScheme_76 : decode cX9_byScheme 76 = .ok (.iload 6, 2) := by decide +kernel
theorem dX9_byScheme_78 : decode cX9_byScheme 78 = .ok (.iadd, 1) := by decide +kernel
theorem dX9_byScheme_79 : decode cX9_byScheme 79 = .ok (.iaload, 1) := by decide +kernel
theorem dX9_byScheme_80 : decode cX9_byScheme 80 = .ok (.imul, 1) := by decide +kernel
theorem dX9_byScheme_81 : decode cX9_byScheme 81 = .ok (.iadd, 1) := by decide +kernel
theorem dX9_byScheme_82 : decode cX9_byScheme 82 = .ok (.istore 5, 2) := by decide +kernel
theorem dX9_byScheme_84 : decode cX9_byScheme 84 = .ok (.iinc 6 1, 3) := by decide +kernel
theorem dX9_byScheme_87 : decode cX9_byScheme 87 = .ok (.goto (-66), 3) := by decide +kernel
theorem dX9_byScheme_90 : decode cX9_byScheme 90 = .ok (.iload_n 2, 1) := by decide +kernel
theorem dX9_byScheme_91 : decode cX9_byScheme 91 = .ok (.iload 4, 2) := by decide +kernel
theorem dX9_byScheme_93 : decode cX9_byScheme 93 = .ok (.aload_n 0, 1) := by decide +kernel
theorem dX9_byScheme_94 : decode cX9_byScheme 94 = .ok (.getfield 7, 3) := by decide +kernel
theorem dX9_byScheme_97 : decode cX9_byScheme 97 = .ok (.irem, 1) := by decide +kernel
theorem dX9_byScheme_98 : decode cX9_byScheme 98 = .ok (.iload 5, 2) := by decide +kernel
theorem dX9_byScheme_100 : decode cX9_byScheme 100 = .ok (.aload_n 0, 1) := by decide +kernel
theorem dX9_byScheme_101 : decode cX9_byScheme 101 = .ok (.getfield 7, 3) := by decide +kernel
theorem dX9_byScheme_104 : decode cX9_byScheme 104 = .ok (.irem, 1) := by decide +kernel
theorem dX9_byScheme_105 : decode cX9_byScheme 105 = .ok (.imul, 1) := by decide +kernel
theorem dX9_byScheme_106 : decode cX9_byScheme 106 = .ok (.aload_n 0, 1) := by decide +kernel
theorem dX9_byScheme_107 : decode cX9_byScheme 107 = .ok (.getfield 20, 3) := by decide +kernel
theorem dX9_byScheme_110 : decode cX9_byScheme 110 = .ok (.bipush 27, 2) := by decide +kernel
theorem dX9_byScheme_112 : decode cX9_byScheme 112 = .ok (.iload_n 3, 1) := by decide +kernel
theorem dX9_byScheme_113 : decode cX9_byScheme 113 = .ok (.imul, 1) := by decide +kernel
theorem dX9_byScheme_114 : decode cX9_byScheme 114 = .ok (.bipush 18, 2) := by decide +kernel
theorem dX9_byScheme_116 : decode cX9_byScheme 116 = .ok (.iadd, 1) := by decide +kernel
theorem dX9_byScheme_117 : decode cX9_byScheme 117 = .ok (.iload_n 1, 1) := by decide +kernel
theorem dX9_byScheme_118 : decode cX9_byScheme 118 = .ok (.iadd, 1) := by decide +kernel
theorem dX9_byScheme_119 : decode cX9_byScheme 119 = .ok (.iaload, 1) := by decide +kernel
theorem dX9_byScheme_120 : decode cX9_byScheme 120 = .ok (.imul, 1) := by decide +kernel
theorem dX9_byScheme_121 : decode cX9_byScheme 121 = .ok (.iadd, 1) := by decide +kernel
theorem dX9_byScheme_122 : decode cX9_byScheme 122 = .ok (.istore_n 2, 1) := by decide +kernel
theorem dX9_byScheme_123 : decode cX9_byScheme 123 = .ok (.iinc 3 1, 3) := by decide +kernel
theorem dX9_byScheme_126 : decode cX9_byScheme 126 = .ok (.goto (-122), 3) := by decide +kernel
theorem dX9_byScheme_129 : decode cX9_byScheme 129 = .ok (.iload_n 2, 1) := by decide +kernel
theorem dX9_byScheme_130 : decode cX9_byScheme 130 = .ok (.aload_n 0, 1) := by decide +kernel
theorem dX9_byScheme_131 : decode cX9_byScheme 131 = .ok (.getfield 7, 3) := by decide +kernel
theorem dX9_byScheme_134 : decode cX9_byScheme 134 = .ok (.irem, 1) := by decide +kernel
theorem dX9_byScheme_135 : decode cX9_byScheme 135 = .ok (.ireturn, 1) := by decide +kernel
theorem dX9_run_0 : decode cX9_run 0 = .ok (.iload_n 1, 1) := by decide +kernel
theorem dX9_run_1 : decode cX9_run 1 = .ok (.i2l, 1) := by decide +kernel
theorem dX9_run_2 : decode cX9_run 2 = .ok (.lconst 0, 1) := by decide +kernel
theorem dX9_run_3 : decode cX9_run 3 = .ok (.lconst 1, 1) := by decide +kernel
theorem dX9_run_4 : decode cX9_run 4 = .ok (.invokestatic 97, 3) := by decide +kernel
theorem dX9_run_7 : decode cX9_run 7 = .ok (.ifCond .ne 5, 3) := by decide +kernel
theorem dX9_run_10 : decode cX9_run 10 = .ok (.iconst (-1), 1) := by decide +kernel
theorem dX9_run_11 : decode cX9_run 11 = .ok (.ireturn, 1) := by decide +kernel
theorem dX9_run_12 : decode cX9_run 12 = .ok (.iconst 0, 1) := by decide +kernel
theorem dX9_run_13 : decode cX9_run 13 = .ok (.istore_n 2, 1) := by decide +kernel
theorem dX9_run_14 : decode cX9_run 14 = .ok (.aload_n 0, 1) := by decide +kernel
theorem dX9_run_15 : decode cX9_run 15 = .ok (.getfield 13, 3) := by decide +kernel
theorem dX9_run_18 : decode cX9_run 18 = .ok (.iconst 2, 1) := by decide +kernel
theorem dX9_run_19 : decode cX9_run 19 = .ok (.iaload, 1) := by decide +kernel
theorem dX9_run_20 : decode cX9_run 20 = .ok (.iconst 1, 1) := by decide +kernel
theorem dX9_run_21 : decode cX9_run 21 = .ok (.isub, 1) := by decide +kernel
theorem dX9_run_22 : decode cX9_run 22 = .ok (.istore_n 3, 1) := by decide +kernel
theorem dX9_run_23 : decode cX9_run 23 = .ok (.iload_n 3, 1) := by decide +kernel
theorem dX9_run_24 : decode cX9_run 24 = .ok (.ifCond .lt 34, 3) := by decide +kernel
theorem dX9_run_27 : decode cX9_run 27 = .ok (.iload_n 2, 1) := by decide +kernel
theorem dX9_run_28 : decode cX9_run 28 = .ok (.aload_n 0, 1) := by decide +kernel
theorem dX9_run_29 : decode cX9_run 29 = .ok (.getfield 7, 3) := by decide +kernel
theorem dX9_run_32 : decode cX9_run 32 = .ok (.imul, 1) := by decide +kernel
theorem dX9_run_33 : decode cX9_run 33 = .ok (.iload_n 1, 1) := by decide +kernel
theorem dX9_run_34 : decode cX9_run 34 = .ok (.ifCond .ne 11, 3) := by decide +kernel
theorem dX9_run_37 : decode cX9_run 37 = .ok (.aload_n 0, 1) := by decide +kernel
theorem dX9_run_38 : decode cX9_run 38 = .ok (.iload_n 3, 1) := by decide +kernel
theorem dX9_run_39 : decode cX9_run 39 = .ok (.invokevirtual 235, 3) := by decide +kernel
theorem dX9_run_42 : decode cX9_run 42 = .ok (.goto 8, 3) := by decide +kernel
theorem dX9_run_45 : decode cX9_run 45 = .ok (.aload_n 0, 1) := by decide +kernel
theorem dX9_run_46 : decode cX9_run 46 = .ok (.iload_n 3, 1) := by decide +kernel
theorem dX9_run_47 : decode cX9_run 47 = .ok (.invokevirtual 238, 3) := by decide +kernel
theorem dX9_run_50 : decode cX9_run 50 = .ok (.iadd, 1) := by decide +kernel
theorem dX9_run_51 : decode cX9_run 51 = .ok (.istore_n 2, 1) := by decide +kernel
theorem dX9_run_52 : decode cX9_run 52 = .ok (.iinc 3 (-1), 3) := by decide +kernel
theorem dX9_run_55 : decode cX9_run 55 = .ok (.goto (-32), 3) := by decide +kernel
theorem dX9_run_58 : decode cX9_run 58 = .ok (.iload_n 2, 1) := by decide +kernel
theorem dX9_run_59 : decode cX9_run 59 = .ok (.ireturn, 1) := by decide +kernel
theorem dX9_plainSums_0 : decode cX9_plainSums 0 = .ok (.iconst 0, 1) := by decide +kernel
theorem dX9_plainSums_1 : decode cX9_plainSums 1 = .ok (.istore_n 2, 1) := by decide +kernel
theorem dX9_plainSums_2 : decode cX9_plainSums 2 = .ok (.iconst 0, 1) := by decide +kernel
theorem dX9_plainSums_3 : decode cX9_plainSums 3 = .ok (.istore_n 3, 1) := by decide +kernel
theorem dX9_plainSums_4 : decode cX9_plainSums 4 = .ok (.iload_n 3, 1) := by decide +kernel
theorem dX9_plainSums_5 : decode cX9_plainSums 5 = .ok (.aload_n 0, 1) := by decide +kernel
theorem dX9_plainSums_6 : decode cX9_plainSums 6 = .ok (.getfield 85, 3) := by decide +kernel
theorem dX9_plainSums_9 : decode cX9_plainSums 9 = .ok (.if_icmp .ge 68, 3) := by decide +kernel
theorem dX9_plainSums_12 : decode cX9_plainSums 12 = .ok (.iconst 0, 1) := by decide +kernel
theorem dX9_plainSums_13 : decode cX9_plainSums 13 = .ok (.istore 4, 2) := by decide +kernel
theorem dX9_plainSums_15 : decode cX9_plainSums 15 = .ok (.iconst 0, 1) := by decide +kernel
theorem dX9_plainSums_16 : decode cX9_plainSums 16 = .ok (.istore 5, 2) := by decide +kernel
theorem dX9_plainSums_18 : decode cX9_plainSums 18 = .ok (.iload 5, 2) := by decide +kernel
theorem dX9_plainSums_20 : decode cX9_plainSums 20 = .ok (.iload_n 1, 1) := by decide +kernel
theorem dX9_plainSums_21 : decode cX9_plainSums 21 = .ok (.if_icmp .ge 34, 3) := by decide +kernel
theorem dX9_plainSums_24 : decode cX9_plainSums 24 = .ok (.iload 4, 2) := by decide +kernel
theorem dX9_plainSums_26 : decode cX9_plainSums 26 = .ok (.aload_n 0, 1) := by decide +kernel
theorem dX9_plainSums_27 : decode cX9_plainSums 27 = .ok (.getfield 78, 3) := by decide +kernel
theorem dX9_plainSums_30 : decode cX9_plainSums 30 = .ok (.bipush 49, 2) := by decide +kernel
theorem dX9_plainSums_32 : decode cX9_plainSums 32 = .ok (.iload_n 3, 1) := by decide +kernel
theorem dX9_plainSums_33 : decode cX9_plainSums 33 = .ok (.imul, 1) := by decide +kernel
theorem dX9_plainSums_34 : decode cX9_plainSums 34 = .ok (.iload 5, 2) := by decide +kernel
theorem dX9_plainSums_36 : decode cX9_plainSums 36 = .ok (.iadd, 1) := by decide +kernel
theorem dX9_plainSums_37 : decode cX9_plainSums 37 = .ok (.iaload, 1) := by decide +kernel
theorem dX9_plainSums_38 : decode cX9_plainSums 38 = .ok (.ifCond .eq 7, 3) := by decide +kernel
theorem dX9_plainSums_41 : decode cX9_plainSums 41 = .ok (.iconst 1, 1) := by decide +kernel
theorem dX9_plainSums_42 : decode cX9_plainSums 42 = .ok (.goto 4, 3) := by decide +kernel
theorem dX9_plainSums_45 : decode cX9_plainSums 45 = .ok (.iconst 0, 1) := by decide +kernel
theorem dX9_plainSums_46 : decode cX9_plainSums 46 = .ok (.iadd, 1) := by decide +kernel
theorem dX9_plainSums_47 : decode cX9_plainSums 47 = .ok (.istore 4, 2) := by decide +kernel
theorem dX9_plainSums_49 : decode cX9_plainSums 49 = .ok (.iinc 5 1, 3) := by decide +kernel
theorem dX9_plainSums_52 : decode cX9_plainSums 52 = .ok (.goto (-34), 3) := by decide +kernel
theorem dX9_plainSums_55 : decode cX9_plainSums 55 = .ok (.iload_n 2, 1) := by decide +kernel
theorem dX9_plainSums_56 : decode cX9_plainSums 56 = .ok (.iload 4, 2) := by decide +kernel
theorem dX9_plainSums_58 : decode cX9_plainSums 58 = .ok (.ifCond .le 10, 3) := by decide +kernel
theorem dX9_plainSums_61 : decode cX9_plainSums 61 = .ok (.iload 4, 2) := by decide +kernel
theorem dX9_plainSums_63 : decode cX9_plainSums 63 = .ok (.iconst 1, 1) := by decide +kernel
theorem dX9_plainSums_64 : decode cX9_plainSums 64 = .ok (.isub, 1) := by decide +kernel
theorem dX9_plainSums_65 : decode cX9_plainSums 65 = .ok (.goto 4, 3) := by decide +kernel
theorem dX9_plainSums_68 : decode cX9_plainSums 68 = .ok (.iconst 0, 1) := by decide +kernel
theorem dX9_plainSums_69 : decode cX9_plainSums 69 = .ok (.iadd, 1) := by decide +kernel
theorem dX9_plainSums_70 : decode cX9_plainSums 70 = .ok (.istore_n 2, 1) := by decide +kernel
theorem dX9_plainSums_71 : decode cX9_plainSums 71 = .ok (.iinc 3 1, 3) := by decide +kernel
theorem dX9_plainSums_74 : decode cX9_plainSums 74 = .ok (.goto (-70), 3) := by decide +kernel
theorem dX9_plainSums_77 : decode cX9_plainSums 77 = .ok (.iload_n 2, 1) := by decide +kernel
theorem dX9_plainSums_78 : decode cX9_plainSums 78 = .ok (.ireturn, 1) := by decide +kernel
theorem dX9_hasBoth_0 : decode cX9_hasBoth 0 = .ok (.aload_n 0, 1) := by decide +kernel
theorem dX9_hasBoth_1 : decode cX9_hasBoth 1 = .ok (.getfield 78, 3) := by decide +kernel
theorem dX9_hasBoth_4 : decode cX9_hasBoth 4 = .ok (.bipush 49, 2) := by decide +kernel
theorem dX9_hasBoth_6 : decode cX9_hasBoth 6 = .ok (.iload_n 1, 1) := by decide +kernel
theorem dX9_hasBoth_7 : decode cX9_hasBoth 7 = .ok (.imul, 1) := by decide +kernel
theorem dX9_hasBoth_8 : decode cX9_hasBoth 8 = .ok (.iload_n 2, 1) := by decide +kernel
theorem dX9_hasBoth_9 : decode cX9_hasBoth 9 = .ok (.iadd, 1) := by decide +kernel
theorem dX9_hasBoth_10 : decode cX9_hasBoth 10 = .ok (.iaload, 1) := by decide +kernel
theorem dX9_hasBoth_11 : decode cX9_hasBoth 11 = .ok (.istore 5, 2) := by decide +kernel
theorem dX9_hasBoth_13 : decode cX9_hasBoth 13 = .ok (.iload 5, 2) := by decide +kernel
theorem dX9_hasBoth_15 : decode cX9_hasBoth 15 = .ok (.ifCond .eq 31, 3) := by decide +kernel
theorem dX9_hasBoth_18 : decode cX9_hasBoth 18 = .ok (.aload_n 0, 1) := by decide +kernel
theorem dX9_hasBoth_19 : decode cX9_hasBoth 19 = .ok (.getfield 78, 3) := by decide +kernel
theorem dX9_hasBoth_22 : decode cX9_hasBoth 22 = .ok (.bipush 49, 2) := by decide +kernel
theorem dX9_hasBoth_24 : decode cX9_hasBoth 24 = .ok (.iload_n 1, 1) := by decide +kernel
theorem dX9_hasBoth_25 : decode cX9_hasBoth 25 = .ok (.imul, 1) := by decide +kernel
theorem dX9_hasBoth_26 : decode cX9_hasBoth 26 = .ok (.iload_n 3, 1) := by decide +kernel
theorem dX9_hasBoth_27 : decode cX9_hasBoth 27 = .ok (.iadd, 1) := by decide +kernel
theorem dX9_hasBoth_28 : decode cX9_hasBoth 28 = .ok (.iaload, 1) := by decide +kernel
theorem dX9_hasBoth_29 : decode cX9_hasBoth 29 = .ok (.iload 4, 2) := by decide +kernel
theorem dX9_hasBoth_31 : decode cX9_hasBoth 31 = .ok (.iload 5, 2) := by decide +kernel
theorem dX9_hasBoth_33 : decode cX9_hasBoth 33 = .ok (.imul, 1) := by decide +kernel
theorem dX9_hasBoth_34 : decode cX9_hasBoth 34 = .ok (.aload_n 0, 1) := by decide +kernel
end
section
theorem dX9_hasBoth_35 : decode cX9_hasBoth 35 = .ok (.getfield 7, 3) := by decide +kernel
theorem dX9_hasBoth_38 : decode cX9_hasBoth 38 = .ok (.irem, 1) := by decide +kernel
theorem dX9_hasBoth_39 : decode cX9_hasBoth 39 = .ok (.if_icmp .ne 7, 3) := by decide +kernel
theorem dX9_hasBoth_42 : decode cX9_hasBoth 42 = .ok (.iconst 1, 1) := by decide +kernel
theorem dX9_hasBoth_43 : decode cX9_hasBoth 43 = .ok (.goto 4, 3) := by decide +kernel
theorem dX9_hasBoth_46 : decode cX9_hasBoth 46 = .ok (.iconst 0, 1) := by decide +kernel
theorem dX9_hasBoth_47 : decode cX9_hasBoth 47 = .ok (.ireturn, 1) := by decide +kernel
theorem dX9_rowsWith_0 : decode cX9_rowsWith 0 = .ok (.iconst 0, 1) := by decide +kernel
theorem dX9_rowsWith_1 : decode cX9_rowsWith 1 = .ok (.istore 4, 2) := by decide +kernel
theorem dX9_rowsWith_3 : decode cX9_rowsWith 3 = .ok (.iconst 0, 1) := by decide +kernel
theorem dX9_rowsWith_4 : decode cX9_rowsWith 4 = .ok (.istore 5, 2) := by decide +kernel
theorem dX9_rowsWith_6 : decode cX9_rowsWith 6 = .ok (.iload 5, 2) := by decide +kernel
theorem dX9_rowsWith_8 : decode cX9_rowsWith 8 = .ok (.aload_n 0, 1) := by decide +kernel
theorem dX9_rowsWith_9 : decode cX9_rowsWith 9 = .ok (.getfield 85, 3) := by decide +kernel
theorem dX9_rowsWith_12 : decode cX9_rowsWith 12 = .ok (.if_icmp .ge 31, 3) := by decide +kernel
theorem dX9_rowsWith_15 : decode cX9_rowsWith 15 = .ok (.iload 4, 2) := by decide +kernel
theorem dX9_rowsWith_17 : decode cX9_rowsWith 17 = .ok (.aload_n 0, 1) := by decide +kernel
theorem dX9_rowsWith_18 : decode cX9_rowsWith 18 = .ok (.iload 5, 2) := by decide +kernel
theorem dX9_rowsWith_20 : decode cX9_rowsWith 20 = .ok (.iload_n 1, 1) := by decide +kernel
theorem dX9_rowsWith_21 : decode cX9_rowsWith 21 = .ok (.iload_n 2, 1) := by decide +kernel
theorem dX9_rowsWith_22 : decode cX9_rowsWith 22 = .ok (.iload_n 3, 1) := by decide +kernel
theorem dX9_rowsWith_23 : decode cX9_rowsWith 23 = .ok (.invokevirtual 241, 3) := by decide +kernel
theorem dX9_rowsWith_26 : decode cX9_rowsWith 26 = .ok (.ifCond .eq 7, 3) := by decide +kernel
theorem dX9_rowsWith_29 : decode cX9_rowsWith 29 = .ok (.iconst 1, 1) := by decide +kernel
theorem dX9_rowsWith_30 : decode cX9_rowsWith 30 = .ok (.goto 4, 3) := by decide +kernel
theorem dX9_rowsWith_33 : decode cX9_rowsWith 33 = .ok (.iconst 0, 1) := by decide +kernel
theorem dX9_rowsWith_34 : decode cX9_rowsWith 34 = .ok (.iadd, 1) := by decide +kernel
theorem dX9_rowsWith_35 : decode cX9_rowsWith 35 = .ok (.istore 4, 2) := by decide +kernel
theorem dX9_rowsWith_37 : decode cX9_rowsWith 37 = .ok (.iinc 5 1, 3) := by decide +kernel
theorem dX9_rowsWith_40 : decode cX9_rowsWith 40 = .ok (.goto (-34), 3) := by decide +kernel
theorem dX9_rowsWith_43 : decode cX9_rowsWith 43 = .ok (.iload 4, 2) := by decide +kernel
theorem dX9_rowsWith_45 : decode cX9_rowsWith 45 = .ok (.ireturn, 1) := by decide +kernel
theorem dX9_share_0 : decode cX9_share 0 = .ok (.iconst 1, 1) := by decide +kernel
theorem dX9_share_1 : decode cX9_share 1 = .ok (.istore_n 1, 1) := by decide +kernel
theorem dX9_share_2 : decode cX9_share 2 = .ok (.iconst 0, 1) := by decide +kernel
theorem dX9_share_3 : decode cX9_share 3 = .ok (.istore_n 2, 1) := by decide +kernel
theorem dX9_share_4 : decode cX9_share 4 = .ok (.iconst 0, 1) := by decide +kernel
theorem dX9_share_5 : decode cX9_share 5 = .ok (.istore_n 3, 1) := by decide +kernel
theorem dX9_share_6 : decode cX9_share 6 = .ok (.iconst 0, 1) := by decide +kernel
theorem dX9_share_7 : decode cX9_share 7 = .ok (.istore 4, 2) := by decide +kernel
theorem dX9_share_9 : decode cX9_share 9 = .ok (.iconst 0, 1) := by decide +kernel
theorem dX9_share_10 : decode cX9_share 10 = .ok (.istore 5, 2) := by decide +kernel
theorem dX9_share_12 : decode cX9_share 12 = .ok (.iload 5, 2) := by decide +kernel
theorem dX9_share_14 : decode cX9_share 14 = .ok (.aload_n 0, 1) := by decide +kernel
theorem dX9_share_15 : decode cX9_share 15 = .ok (.getfield 245, 3) := by decide +kernel
theorem dX9_share_18 : decode cX9_share 18 = .ok (.if_icmp .ge 79, 3) := by decide +kernel
theorem dX9_share_21 : decode cX9_share 21 = .ok (.iload 5, 2) := by decide +kernel
theorem dX9_share_23 : decode cX9_share 23 = .ok (.iconst 1, 1) := by decide +kernel
theorem dX9_share_24 : decode cX9_share 24 = .ok (.iadd, 1) := by decide +kernel
theorem dX9_share_25 : decode cX9_share 25 = .ok (.istore 6, 2) := by decide +kernel
theorem dX9_share_27 : decode cX9_share 27 = .ok (.iload 6, 2) := by decide +kernel
theorem dX9_share_29 : decode cX9_share 29 = .ok (.aload_n 0, 1) := by decide +kernel
theorem dX9_share_30 : decode cX9_share 30 = .ok (.getfield 245, 3) := by decide +kernel
theorem dX9_share_33 : decode cX9_share 33 = .ok (.if_icmp .ge 58, 3) := by decide +kernel
theorem dX9_share_36 : decode cX9_share 36 = .ok (.iconst 1, 1) := by decide +kernel
theorem dX9_share_37 : decode cX9_share 37 = .ok (.istore 7, 2) := by decide +kernel
theorem dX9_share_39 : decode cX9_share 39 = .ok (.iload 7, 2) := by decide +kernel
theorem dX9_share_41 : decode cX9_share 41 = .ok (.aload_n 0, 1) := by decide +kernel
theorem dX9_share_42 : decode cX9_share 42 = .ok (.getfield 7, 3) := by decide +kernel
theorem dX9_share_45 : decode cX9_share 45 = .ok (.if_icmp .ge 40, 3) := by decide +kernel
theorem dX9_share_48 : decode cX9_share 48 = .ok (.aload_n 0, 1) := by decide +kernel
theorem dX9_share_49 : decode cX9_share 49 = .ok (.iload 5, 2) := by decide +kernel
theorem dX9_share_51 : decode cX9_share 51 = .ok (.iload 6, 2) := by decide +kernel
theorem dX9_share_53 : decode cX9_share 53 = .ok (.iload 7, 2) := by decide +kernel
theorem dX9_share_55 : decode cX9_share 55 = .ok (.invokevirtual 248, 3) := by decide +kernel
theorem dX9_share_58 : decode cX9_share 58 = .ok (.istore 8, 2) := by decide +kernel
theorem dX9_share_60 : decode cX9_share 60 = .ok (.iload 8, 2) := by decide +kernel
theorem dX9_share_62 : decode cX9_share 62 = .ok (.iload_n 1, 1) := by decide +kernel
theorem dX9_share_63 : decode cX9_share 63 = .ok (.if_icmp .le 16, 3) := by decide +kernel
theorem dX9_share_66 : decode cX9_share 66 = .ok (.iload 8, 2) := by decide +kernel
theorem dX9_share_68 : decode cX9_share 68 = .ok (.istore_n 1, 1) := by decide +kernel
theorem dX9_share_69 : decode cX9_share 69 = .ok (.iload 5, 2) := by decide +kernel
theorem dX9_share_71 : decode cX9_share 71 = .ok (.istore_n 2, 1) := by decide +kernel
theorem dX9_share_72 : decode cX9_share 72 = .ok (.iload 6, 2) := by decide +kernel
theorem dX9_share_74 : decode cX9_share 74 = .ok (.istore_n 3, 1) := by decide +kernel
theorem dX9_share_75 : decode cX9_share 75 = .ok (.iload 7, 2) := by decide +kernel
theorem dX9_share_77 : decode cX9_share 77 = .ok (.istore 4, 2) := by decide +kernel
theorem dX9_share_79 : decode cX9_share 79 = .ok (.iinc 7 1, 3) := by decide +kernel
theorem dX9_share_82 : decode cX9_share 82 = .ok (.goto (-43), 3) := by decide +kernel
theorem dX9_share_85 : decode cX9_share 85 = .ok (.iinc 6 1, 3) := by decide +kernel
theorem dX9_share_88 : decode cX9_share 88 = .ok (.goto (-61), 3) := by decide +kernel
theorem dX9_share_91 : decode cX9_share 91 = .ok (.iinc 5 1, 3) := by decide +kernel
theorem dX9_share_94 : decode cX9_share 94 = .ok (.goto (-82), 3) := by decide +kernel
theorem dX9_share_97 : decode cX9_share 97 = .ok (.iload_n 1, 1) := by decide +kernel
theorem dX9_share_98 : decode cX9_share 98 = .ok (.iconst 2, 1) := by decide +kernel
theorem dX9_share_99 : decode cX9_share 99 = .ok (.if_icmp .ge 5, 3) := by decide +kernel
theorem dX9_share_102 : decode cX9_share 102 = .ok (.iconst 0, 1) := by decide +kernel
theorem dX9_share_103 : decode cX9_share 103 = .ok (.ireturn, 1) := by decide +kernel
theorem dX9_share_104 : decode cX9_share 104 = .ok (.iconst 0, 1) := by decide +kernel
theorem dX9_share_105 : decode cX9_share 105 = .ok (.istore 5, 2) := by decide +kernel
theorem dX9_share_107 : decode cX9_share 107 = .ok (.iload 5, 2) := by decide +kernel
theorem dX9_share_109 : decode cX9_share 109 = .ok (.aload_n 0, 1) := by decide +kernel
theorem dX9_share_110 : decode cX9_share 110 = .ok (.getfield 85, 3) := by decide +kernel
theorem dX9_share_113 : decode cX9_share 113 = .ok (.if_icmp .ge 88, 3) := by decide +kernel
theorem dX9_share_116 : decode cX9_share 116 = .ok (.aload_n 0, 1) := by decide +kernel
theorem dX9_share_117 : decode cX9_share 117 = .ok (.iload 5, 2) := by decide +kernel
theorem dX9_share_119 : decode cX9_share 119 = .ok (.iload_n 2, 1) := by decide +kernel
theorem dX9_share_120 : decode cX9_share 120 = .ok (.iload_n 3, 1) := by decide +kernel
theorem dX9_share_121 : decode cX9_share 121 = .ok (.iload 4, 2) := by decide +kernel
theorem dX9_share_123 : decode cX9_share 123 = .ok (.invokevirtual 241, 3) := by decide +kernel
theorem dX9_share_126 : decode cX9_share 126 = .ok (.istore 6, 2) := by decide +kernel
theorem dX9_share_128 : decode cX9_share 128 = .ok (.aload_n 0, 1) := by decide +kernel
theorem dX9_share_129 : decode cX9_share 129 = .ok (.getfield 78, 3) := by decide +kernel
theorem dX9_share_132 : decode cX9_share 132 = .ok (.bipush 49, 2) := by decide +kernel
theorem dX9_share_134 : decode cX9_share 134 = .ok (.iload 5, 2) := by decide +kernel
theorem dX9_share_136 : decode cX9_share 136 = .ok (.imul, 1) := by decide +kernel
theorem dX9_share_137 : decode cX9_share 137 = .ok (.aload_n 0, 1) := by decide +kernel
theorem dX9_share_138 : decode cX9_share 138 = .ok (.getfield 245, 3) := by decide +kernel
theorem dX9_share_141 : decode cX9_share 141 = .ok (.iadd, 1) := by decide +kernel
theorem dX9_share_142 : decode cX9_share 142 = .ok (.iload 6, 2) := by decide +kernel
theorem dX9_share_144 : decode cX9_share 144 = .ok (.ifCond .eq 18, 3) := by decide +kernel
theorem dX9_share_147 : decode cX9_share 147 = .ok (.aload_n 0, 1) := by decide +kernel
theorem dX9_share_148 : decode cX9_share 148 = .ok (.getfield 78, 3) := by decide +kernel
theorem dX9_share_151 : decode cX9_share 151 = .ok (.bipush 49, 2) := by decide +kernel
theorem dX9_share_153 : decode cX9_share 153 = .ok (.iload 5, 2) := by decide +kernel
theorem dX9_share_155 : decode cX9_share 155 = .ok (.imul, 1) := by decide +kernel
theorem dX9_share_156 : decode cX9_share 156 = .ok (.iload_n 2, 1) := by decide +kernel
theorem dX9_share_157 : decode cX9_share 157 = .ok (.iadd, 1) := by decide +kernel
theorem dX9_share_158 : decode cX9_share 158 = .ok (.iaload, 1) := by decide +kernel
theorem dX9_share_159 : decode cX9_share 159 = .ok (.goto 4, 3) := by decide +kernel
theorem dX9_share_162 : decode cX9_share 162 = .ok (.iconst 0, 1) := by decide +kernel
theorem dX9_share_163 : decode cX9_share 163 = .ok (.iastore, 1) := by decide +kernel
theorem dX9_share_164 : decode cX9_share 164 = .ok (.iload 6, 2) := by decide +kernel
theorem dX9_share_166 : decode cX9_share 166 = .ok (.ifCond .eq 29, 3) := by decide +kernel
theorem dX9_share_169 : decode cX9_share 169 = .ok (.aload_n 0, 1) := by decide +kernel
theorem dX9_share_170 : decode cX9_share 170 = .ok (.getfield 78, 3) := by decide +kernel
theorem dX9_share_173 : decode cX9_share 173 = .ok (.bipush 49, 2) := by decide +kernel
theorem dX9_share_175 : decode cX9_share 175 = .ok (.iload 5, 2) := by decide +kernel
theorem dX9_share_177 : decode cX9_share 177 = .ok (.imul, 1) := by decide +kernel
theorem dX9_share_178 : decode cX9_share 178 = .ok (.iload_n 2, 1) := by decide +kernel
theorem dX9_share_179 : decode cX9_share 179 = .ok (.iadd, 1) := by decide +kernel
theorem dX9_share_180 : decode cX9_share 180 = .ok (.iconst 0, 1) := by decide +kernel
theorem dX9_share_181 : decode cX9_share 181 = .ok (.iastore, 1) := by decide +kernel
theorem dX9_share_182 : decode cX9_share 182 = .ok (.aload_n 0, 1) := by decide +kernel
theorem dX9_share_183 : decode cX9_share 183 = .ok (.getfield 78, 3) := by decide +kernel
theorem dX9_share_186 : decode cX9_share 186 = .ok (.bipush 49, 2) := by decide +kernel
theorem dX9_share_188 : decode cX9_share 188 = .ok (.iload 5, 2) := by decide +kernel
theorem dX9_share_190 : decode cX9_share 190 = .ok (.imul, 1) := by decide +kernel
theorem dX9_share_191 : decode cX9_share 191 = .ok (.iload_n 3, 1) := by decide +kernel
theorem dX9_share_192 : decode cX9_share 192 = .ok (.iadd, 1) := by decide +kernel
theorem dX9_share_193 : decode cX9_share 193 = .ok (.iconst 0, 1) := by decide +kernel
theorem dX9_share_194 : decode cX9_share 194 = .ok (.iastore, 1) := by decide +kernel
theorem dX9_share_195 : decode cX9_share 195 = .ok (.iinc 5 1, 3) := by decide +kernel
theorem dX9_share_198 : decode cX9_share 198 = .ok (.goto (-91), 3) := by decide +kernel
theorem dX9_share_201 : decode cX9_share 201 = .ok (.aload_n 0, 1) := by decide +kernel
theorem dX9_share_202 : decode cX9_share 202 = .ok (.dup, 1) := by decide +kernel
theorem dX9_share_203 : decode cX9_share 203 = .ok (.getfield 245, 3) := by decide +kernel
theorem dX9_share_206 : decode cX9_share 206 = .ok (.iconst 1, 1) := by decide +kernel
theorem dX9_share_207 : decode cX9_share 207 = .ok (.iadd, 1) := by decide +kernel
theorem dX9_share_208 : decode cX9_share 208 = .ok (.putfield 245, 3) := by decide +kernel
theorem dX9_share_211 : decode cX9_share 211 = .ok (.iconst 1, 1) := by decide +kernel
theorem dX9_share_212 : decode cX9_share 212 = .ok (.ireturn, 1) := by decide +kernel
theorem dX9_sums_0 : decode cX9_sums 0 = .ok (.iload_n 1, 1) := by decide +kernel
theorem dX9_sums_1 : decode cX9_sums 1 = .ok (.i2l, 1) := by decide +kernel
theorem dX9_sums_2 : decode cX9_sums 2 = .ok (.lconst 0, 1) := by decide +kernel
theorem dX9_sums_3 : decode cX9_sums 3 = .ok (.lconst 1, 1) := by decide +kernel
theorem dX9_sums_4 : decode cX9_sums 4 = .ok (.invokestatic 97, 3) := by decide +kernel
theorem dX9_sums_7 : decode cX9_sums 7 = .ok (.ifCond .eq 13, 3) := by decide +kernel
theorem dX9_sums_10 : decode cX9_sums 10 = .ok (.iload_n 2, 1) := by decide +kernel
theorem dX9_sums_11 : decode cX9_sums 11 = .ok (.i2l, 1) := by decide +kernel
theorem dX9_sums_12 : decode cX9_sums 12 = .ok (.lconst 0, 1) := by decide +kernel
theorem dX9_sums_13 : decode cX9_sums 13 = .ok (.lconst 1, 1) := by decide +kernel
theorem dX9_sums_14 : decode cX9_sums 14 = .ok (.invokestatic 97, 3) := by decide +kernel
theorem dX9_sums_17 : decode cX9_sums 17 = .ok (.ifCond .ne 5, 3) := by decide +kernel
theorem dX9_sums_20 : decode cX9_sums 20 = .ok (.iconst (-1), 1) := by decide +kernel
theorem dX9_sums_21 : decode cX9_sums 21 = .ok (.ireturn, 1) := by decide +kernel
theorem dX9_sums_22 : decode cX9_sums 22 = .ok (.aload_n 0, 1) := by decide +kernel
theorem dX9_sums_23 : decode cX9_sums 23 = .ok (.aload_n 0, 1) := by decide +kernel
theorem dX9_sums_24 : decode cX9_sums 24 = .ok (.getfield 13, 3) := by decide +kernel
theorem dX9_sums_27 : decode cX9_sums 27 = .ok (.iload_n 1, 1) := by decide +kernel
theorem dX9_sums_28 : decode cX9_sums 28 = .ok (.iaload, 1) := by decide +kernel
theorem dX9_sums_29 : decode cX9_sums 29 = .ok (.putfield 245, 3) := by decide +kernel
theorem dX9_sums_32 : decode cX9_sums 32 = .ok (.iconst 0, 1) := by decide +kernel
theorem dX9_sums_33 : decode cX9_sums 33 = .ok (.istore_n 3, 1) := by decide +kernel
theorem dX9_sums_34 : decode cX9_sums 34 = .ok (.iload_n 3, 1) := by decide +kernel
theorem dX9_sums_35 : decode cX9_sums 35 = .ok (.aload_n 0, 1) := by decide +kernel
theorem dX9_sums_36 : decode cX9_sums 36 = .ok (.getfield 85, 3) := by decide +kernel
theorem dX9_sums_39 : decode cX9_sums 39 = .ok (.if_icmp .ge 54, 3) := by decide +kernel
theorem dX9_sums_42 : decode cX9_sums 42 = .ok (.iconst 0, 1) := by decide +kernel
theorem dX9_sums_43 : decode cX9_sums 43 = .ok (.istore 4, 2) := by decide +kernel
theorem dX9_sums_45 : decode cX9_sums 45 = .ok (.iload 4, 2) := by decide +kernel
theorem dX9_sums_47 : decode cX9_sums 47 = .ok (.bipush 9, 2) := by decide +kernel
theorem dX9_sums_49 : decode cX9_sums 49 = .ok (.if_icmp .ge 38, 3) := by decide +kernel
theorem dX9_sums_52 : decode cX9_sums 52 = .ok (.aload_n 0, 1) := by decide +kernel
theorem dX9_sums_53 : decode cX9_sums 53 = .ok (.getfield 78, 3) := by decide +kernel
theorem dX9_sums_56 : decode cX9_sums 56 = .ok (.bipush 49, 2) := by decide +kernel
theorem dX9_sums_58 : decode cX9_sums 58 = .ok (.iload_n 3, 1) := by decide +kernel
theorem dX9_sums_59 : decode cX9_sums 59 = .ok (.imul, 1) := by decide +kernel
theorem dX9_sums_60 : decode cX9_sums 60 = .ok (.iload 4, 2) := by decide +kernel
theorem dX9_sums_62 : decode cX9_sums 62 = .ok (.iadd, 1) := by decide +kernel
theorem dX9_sums_63 : decode cX9_sums 63 = .ok (.aload_n 0, 1) := by decide +kernel
theorem dX9_sums_64 : decode cX9_sums 64 = .ok (.getfield 20, 3) := by decide +kernel
theorem dX9_sums_67 : decode cX9_sums 67 = .ok (.bipush 27, 2) := by decide +kernel
theorem dX9_sums_69 : decode cX9_sums 69 = .ok (.iload_n 3, 1) := by decide +kernel
theorem dX9_sums_70 : decode cX9_sums 70 = .ok (.imul, 1) := by decide +kernel
theorem dX9_sums_71 : decode cX9_sums 71 = .ok (.bipush 9, 2) := by decide +kernel
theorem dX9_sums_73 : decode cX9_sums 73 = .ok (.iload_n 1, 1) := by decide +kernel
theorem dX9_sums_74 : decode cX9_sums 74 = .ok (.imul, 1) := by decide +kernel
theorem dX9_sums_75 : decode cX9_sums 75 = .ok (.iadd, 1) := by decide +kernel
theorem dX9_sums_76 : decode cX9_sums 76 = .ok (.iload 4, 2) := by decide +kernel
theorem dX9_sums_78 : decode cX9_sums 78 = .ok (.iadd, 1) := by decide +kernel
theorem dX9_sums_79 : decode cX9_sums 79 = .ok (.iaload, 1) := by decide +kernel
theorem dX9_sums_80 : decode cX9_sums 80 = .ok (.iastore, 1) := by decide +kernel
theorem dX9_sums_81 : decode cX9_sums 81 = .ok (.iinc 4 1, 3) := by decide +kernel
theorem dX9_sums_84 : decode cX9_sums 84 = .ok (.goto (-39), 3) := by decide +kernel
theorem dX9_sums_87 : decode cX9_sums 87 = .ok (.iinc 3 1, 3) := by decide +kernel
theorem dX9_sums_90 : decode cX9_sums 90 = .ok (.goto (-56), 3) := by decide +kernel
theorem dX9_sums_93 : decode cX9_sums 93 = .ok (.iconst 0, 1) := by decide +kernel
theorem dX9_sums_94 : decode cX9_sums 94 = .ok (.istore_n 3, 1) := by decide +kernel
theorem dX9_sums_95 : decode cX9_sums 95 = .ok (.iload_n 2, 1) := by decide +kernel
theorem dX9_sums_96 : decode cX9_sums 96 = .ok (.iconst 1, 1) := by decide +kernel
theorem dX9_sums_97 : decode cX9_sums 97 = .ok (.if_icmp .ne 7, 3) := by decide +kernel
theorem dX9_sums_100 : decode cX9_sums 100 = .ok (.iconst 1, 1) := by decide +kernel
theorem dX9_sums_101 : decode cX9_sums 101 = .ok (.goto 4, 3) := by decide +kernel
theorem dX9_sums_104 : decode cX9_sums 104 = .ok (.iconst 0, 1) := by decide +kernel
theorem dX9_sums_105 : decode cX9_sums 105 = .ok (.istore 4, 2) := by decide +kernel
theorem dX9_sums_107 : decode cX9_sums 107 = .ok (.iload 4, 2) := by decide +kernel
theorem dX9_sums_109 : decode cX9_sums 109 = .ok (.ifCond .eq 31, 3) := by decide +kernel
theorem dX9_sums_112 : decode cX9_sums 112 = .ok (.iload_n 3, 1) := by decide +kernel
theorem dX9_sums_113 : decode cX9_sums 113 = .ok (.bipush 40, 2) := by decide +kernel
theorem dX9_sums_115 : decode cX9_sums 115 = .ok (.if_icmp .ge 25, 3) := by decide +kernel
theorem dX9_sums_118 : decode cX9_sums 118 = .ok (.aload_n 0, 1) := by decide +kernel
theorem dX9_sums_119 : decode cX9_sums 119 = .ok (.invokevirtual 251, 3) := by decide +kernel
theorem dX9_sums_122 : decode cX9_sums 122 = .ok (.istore 4, 2) := by decide +kernel
theorem dX9_sums_124 : decode cX9_sums 124 = .ok (.iload_n 3, 1) := by decide +kernel
theorem dX9_sums_125 : decode cX9_sums 125 = .ok (.iload 4, 2) := by decide +kernel
theorem dX9_sums_127 : decode cX9_sums 127 = .ok (.ifCond .eq 7, 3) := by decide +kernel
theorem dX9_sums_130 : decode cX9_sums 130 = .ok (.iconst 1, 1) := by decide +kernel
theorem dX9_sums_131 : decode cX9_sums 131 = .ok (.goto 4, 3) := by decide +kernel
theorem dX9_sums_134 : decode cX9_sums 134 = .ok (.iconst 0, 1) := by decide +kernel
theorem dX9_sums_135 : decode cX9_sums 135 = .ok (.iadd, 1) := by decide +kernel
theorem dX9_sums_136 : decode cX9_sums 136 = .ok (.istore_n 3, 1) := by decide +kernel
theorem dX9_sums_137 : decode cX9_sums 137 = .ok (.goto (-30), 3) := by decide +kernel
theorem dX9_sums_140 : decode cX9_sums 140 = .ok (.iload_n 3, 1) := by decide +kernel
theorem dX9_sums_141 : decode cX9_sums 141 = .ok (.aload_n 0, 1) := by decide +kernel
theorem dX9_sums_142 : decode cX9_sums 142 = .ok (.aload_n 0, 1) := by decide +kernel
theorem dX9_sums_143 : decode cX9_sums 143 = .ok (.getfield 245, 3) := by decide +kernel
theorem dX9_sums_146 : decode cX9_sums 146 = .ok (.invokevirtual 254, 3) := by decide +kernel
theorem dX9_sums_149 : decode cX9_sums 149 = .ok (.iadd, 1) := by decide +kernel
theorem dX9_sums_150 : decode cX9_sums 150 = .ok (.ireturn, 1) := by decide +kernel
theorem dX9_isKeep_0 : decode cX9_isKeep 0 = .ok (.iload_n 0, 1) := by decide +kernel
theorem dX9_isKeep_1 : decode cX9_isKeep 1 = .ok (.i2l, 1) := by decide +kernel
theorem dX9_isKeep_2 : decode cX9_isKeep 2 = .ok (.lconst 0, 1) := by decide +kernel
theorem dX9_isKeep_3 : decode cX9_isKeep 3 = .ok (.ldc2_w 188, 3) := by decide +kernel
theorem dX9_isKeep_6 : decode cX9_isKeep 6 = .ok (.invokestatic 97, 3) := by decide +kernel
theorem dX9_isKeep_9 : decode cX9_isKeep 9 = .ok (.ireturn, 1) := by decide +kernel
theorem dX9_keep_0 : decode cX9_keep 0 = .ok (.iload_n 1, 1) := by decide +kernel
theorem dX9_keep_1 : decode cX9_keep 1 = .ok (.invokestatic 257, 3) := by decide +kernel
theorem dX9_keep_4 : decode cX9_keep 4 = .ok (.ifCond .ne 5, 3) := by decide +kernel
theorem dX9_keep_7 : decode cX9_keep 7 = .ok (.iconst (-1), 1) := by decide +kernel
theorem dX9_keep_8 : decode cX9_keep 8 = .ok (.ireturn, 1) := by decide +kernel
theorem dX9_keep_9 : decode cX9_keep 9 = .ok (.aload_n 0, 1) := by decide +kernel
theorem dX9_keep_10 : decode cX9_keep 10 = .ok (.getfield 26, 3) := by decide +kernel
theorem dX9_keep_13 : decode cX9_keep 13 = .ok (.iload_n 1, 1) := by decide +kernel
theorem dX9_keep_14 : decode cX9_keep 14 = .ok (.iconst 1, 1) := by decide +kernel
theorem dX9_keep_15 : decode cX9_keep 15 = .ok (.bastore, 1) := by decide +kernel
theorem dX9_keep_16 : decode cX9_keep 16 = .ok (.aload_n 0, 1) := by decide +kernel
theorem dX9_keep_17 : decode cX9_keep 17 = .ok (.getfield 39, 3) := by decide +kernel
theorem dX9_keep_20 : decode cX9_keep 20 = .ok (.iload_n 1, 1) := by decide +kernel
theorem dX9_keep_21 : decode cX9_keep 21 = .ok (.aload_n 0, 1) := by decide +kernel
theorem dX9_keep_22 : decode cX9_keep 22 = .ok (.getfield 85, 3) := by decide +kernel
theorem dX9_keep_25 : decode cX9_keep 25 = .ok (.iastore, 1) := by decide +kernel
theorem dX9_keep_26 : decode cX9_keep 26 = .ok (.iconst 0, 1) := by decide +kernel
theorem dX9_keep_27 : decode cX9_keep 27 = .ok (.istore_n 2, 1) := by decide +kernel
theorem dX9_keep_28 : decode cX9_keep 28 = .ok (.iload_n 2, 1) := by decide +kernel
theorem dX9_keep_29 : decode cX9_keep 29 = .ok (.iconst 3, 1) := by decide +kernel
theorem dX9_keep_30 : decode cX9_keep 30 = .ok (.if_icmp .ge 25, 3) := by decide +kernel
theorem dX9_keep_33 : decode cX9_keep 33 = .ok (.aload_n 0, 1) := by decide +kernel
theorem dX9_keep_34 : decode cX9_keep 34 = .ok (.getfield 30, 3) := by decide +kernel
theorem dX9_keep_37 : decode cX9_keep 37 = .ok (.iconst 3, 1) := by decide +kernel
theorem dX9_keep_38 : decode cX9_keep 38 = .ok (.iload_n 1, 1) := by decide +kernel
theorem dX9_keep_39 : decode cX9_keep 39 = .ok (.imul, 1) := by decide +kernel
theorem dX9_keep_40 : decode cX9_keep 40 = .ok (.iload_n 2, 1) := by decide +kernel
theorem dX9_keep_41 : decode cX9_keep 41 = .ok (.iadd, 1) := by decide +kernel
theorem dX9_keep_42 : decode cX9_keep 42 = .ok (.aload_n 0, 1) := by decide +kernel
theorem dX9_keep_43 : decode cX9_keep 43 = .ok (.getfield 13, 3) := by decide +kernel
theorem dX9_keep_46 : decode cX9_keep 46 = .ok (.iload_n 2, 1) := by decide +kernel
theorem dX9_keep_47 : decode cX9_keep 47 = .ok (.iaload, 1) := by decide +kernel
theorem dX9_keep_48 : decode cX9_keep 48 = .ok (.iastore, 1) := by decide +kernel
theorem dX9_keep_49 : decode cX9_keep 49 = .ok (.iinc 2 1, 3) := by decide +kernel
theorem dX9_keep_52 : decode cX9_keep 52 = .ok (.goto (-24), 3) := by decide +kernel
theorem dX9_keep_55 : decode cX9_keep 55 = .ok (.iconst 0, 1) := by decide +kernel
theorem dX9_keep_56 : decode cX9_keep 56 = .ok (.istore_n 2, 1) := by decide +kernel
theorem dX9_keep_57 : decode cX9_keep 57 = .ok (.iload_n 2, 1) := by decide +kernel
theorem dX9_keep_58 : decode cX9_keep 58 = .ok (.sipush 729, 3) := by decide +kernel
theorem dX9_keep_61 : decode cX9_keep 61 = .ok (.if_icmp .ge 27, 3) := by decide +kernel
theorem dX9_keep_64 : decode cX9_keep 64 = .ok (.aload_n 0, 1) := by decide +kernel
theorem dX9_keep_65 : decode cX9_keep 65 = .ok (.getfield 33, 3) := by decide +kernel
theorem dX9_keep_68 : decode cX9_keep 68 = .ok (.sipush 729, 3) := by decide +kernel
theorem dX9_keep_71 : decode cX9_keep 71 = .ok (.iload_n 1, 1) := by decide +kernel
theorem dX9_keep_72 : decode cX9_keep 72 = .ok (.imul, 1) := by decide +kernel
theorem dX9_keep_73 : decode cX9_keep 73 = .ok (.iload_n 2, 1) := by decide +kernel
theorem dX9_keep_74 : decode cX9_keep 74 = .ok (.iadd, 1) := by decide +kernel
theorem dX9_keep_75 : decode cX9_keep 75 = .ok (.aload_n 0, 1) := by decide +kernel
theorem dX9_keep_76 : decode cX9_keep 76 = .ok (.getfield 17, 3) := by decide +kernel
theorem dX9_keep_79 : decode cX9_keep 79 = .ok (.iload_n 2, 1) := by decide +kernel
theorem dX9_keep_80 : decode cX9_keep 80 = .ok (.iaload, 1) := by decide +kernel
theorem dX9_keep_81 : decode cX9_keep 81 = .ok (.iastore, 1) := by decide +kernel
theorem dX9_keep_82 : decode cX9_keep 82 = .ok (.iinc 2 1, 3) := by decide +kernel
theorem dX9_keep_85 : decode cX9_keep 85 = .ok (.goto (-28), 3) := by decide +kernel
theorem dX9_keep_88 : decode cX9_keep 88 = .ok (.iconst 0, 1) := by decide +kernel
theorem dX9_keep_89 : decode cX9_keep 89 = .ok (.istore_n 2, 1) := by decide +kernel
theorem dX9_keep_90 : decode cX9_keep 90 = .ok (.iload_n 2, 1) := by decide +kernel
theorem dX9_keep_91 : decode cX9_keep 91 = .ok (.bipush 27, 2) := by decide +kernel
theorem dX9_keep_93 : decode cX9_keep 93 = .ok (.aload_n 0, 1) := by decide +kernel
theorem dX9_keep_94 : decode cX9_keep 94 = .ok (.getfield 85, 3) := by decide +kernel
theorem dX9_keep_97 : decode cX9_keep 97 = .ok (.imul, 1) := by decide +kernel
theorem dX9_keep_98 : decode cX9_keep 98 = .ok (.if_icmp .ge 27, 3) := by decide +kernel
theorem dX9_keep_101 : decode cX9_keep 101 = .ok (.aload_n 0, 1) := by decide +kernel
theorem dX9_keep_102 : decode cX9_keep 102 = .ok (.getfield 36, 3) := by decide +kernel
theorem dX9_keep_105 : decode cX9_keep 105 = .ok (.sipush 1080, 3) := by decide +kernel
theorem dX9_keep_108 : decode cX9_keep 108 = .ok (.iload_n 1, 1) := by decide +kernel
theorem dX9_keep_109 : decode cX9_keep 109 = .ok (.imul, 1) := by decide +kernel
theorem dX9_keep_110 : decode cX9_keep 110 = .ok (.iload_n 2, 1) := by decide +kernel
theorem dX9_keep_111 : decode cX9_keep 111 = .ok (.iadd, 1) := by decide +kernel
theorem dX9_keep_112 : decode cX9_keep 112 = .ok (.aload_n 0, 1) := by decide +kernel
theorem dX9_keep_113 : decode cX9_keep 113 = .ok (.getfield 20, 3) := by decide +kernel
theorem dX9_keep_116 : decode cX9_keep 116 = .ok (.iload_n 2, 1) := by decide +kernel
theorem dX9_keep_117 : decode cX9_keep 117 = .ok (.iaload, 1) := by decide +kernel
theorem dX9_keep_118 : decode cX9_keep 118 = .ok (.iastore, 1) := by decide +kernel
theorem dX9_keep_119 : decode cX9_keep 119 = .ok (.iinc 2 1, 3) := by decide +kernel
theorem dX9_keep_122 : decode cX9_keep 122 = .ok (.goto (-32), 3) := by decide +kernel
theorem dX9_keep_125 : decode cX9_keep 125 = .ok (.iconst 1, 1) := by decide +kernel
theorem dX9_keep_126 : decode cX9_keep 126 = .ok (.ireturn, 1) := by decide +kernel
theorem dX9_back_0 : decode cX9_back 0 = .ok (.iload_n 1, 1) := by decide +kernel
theorem dX9_back_1 : decode cX9_back 1 = .ok (.invokestatic 257, 3) := by decide +kernel
theorem dX9_back_4 : decode cX9_back 4 = .ok (.ifCond .ne 5, 3) := by decide +kernel
theorem dX9_back_7 : decode cX9_back 7 = .ok (.iconst (-1), 1) := by decide +kernel
theorem dX9_back_8 : decode cX9_back 8 = .ok (.ireturn, 1) := by decide +kernel
theorem dX9_back_9 : decode cX9_back 9 = .ok (.aload_n 0, 1) := by decide +kernel
theorem dX9_back_10 : decode cX9_back 10 = .ok (.getfield 26, 3) := by decide +kernel
theorem dX9_back_13 : decode cX9_back 13 = .ok (.iload_n 1, 1) := by decide +kernel
theorem dX9_back_14 : decode cX9_back 14 = .ok (.baload, 1) := by decide +kernel
theorem dX9_back_15 : decode cX9_back 15 = .ok (.ifCond .ne 6, 3) := by decide +kernel
theorem dX9_back_18 : decode cX9_back 18 = .ok (.bipush (-4), 2) := by decide +kernel
theorem dX9_back_20 : decode cX9_back 20 = .ok (.ireturn, 1) := by decide +kernel
theorem dX9_back_21 : decode cX9_back 21 = .ok (.aload_n 0, 1) := by decide +kernel
theorem dX9_back_22 : decode cX9_back 22 = .ok (.aload_n 0, 1) := by decide +kernel
theorem dX9_back_23 : decode cX9_back 23 = .ok (.getfield 30, 3) := by decide +kernel
theorem dX9_back_26 : decode cX9_back 26 = .ok (.iconst 3, 1) := by decide +kernel
theorem dX9_back_27 : decode cX9_back 27 = .ok (.iload_n 1, 1) := by decide +kernel
theorem dX9_back_28 : decode cX9_back 28 = .ok (.imul, 1) := by decide +kernel
theorem dX9_back_29 : decode cX9_back 29 = .ok (.iaload, 1) := by decide +kernel
theorem dX9_back_30 : decode cX9_back 30 = .ok (.aload_n 0, 1) := by decide +kernel
theorem dX9_back_31 : decode cX9_back 31 = .ok (.getfield 30, 3) := by decide +kernel
theorem dX9_back_34 : decode cX9_back 34 = .ok (.iconst 3, 1) := by decide +kernel
theorem dX9_back_35 : decode cX9_back 35 = .ok (.iload_n 1, 1) := by decide +kernel
theorem dX9_back_36 : decode cX9_back 36 = .ok (.imul, 1) := by decide +kernel
theorem dX9_back_37 : decode cX9_back 37 = .ok (.iconst 1, 1) := by decide +kernel
theorem dX9_back_38 : decode cX9_back 38 = .ok (.iadd, 1) := by decide +kernel
theorem dX9_back_39 : decode cX9_back 39 = .ok (.iaload, 1) := by decide +kernel
theorem dX9_back_40 : decode cX9_back 40 = .ok (.aload_n 0, 1) := by decide +kernel
theorem dX9_back_41 : decode cX9_back 41 = .ok (.getfield 30, 3) := by decide +kernel
theorem dX9_back_44 : decode cX9_back 44 = .ok (.iconst 3, 1) := by decide +kernel
theorem dX9_back_45 : decode cX9_back 45 = .ok (.iload_n 1, 1) := by decide +kernel
theorem dX9_back_46 : decode cX9_back 46 = .ok (.imul, 1) := by decide +kernel
theorem dX9_back_47 : decode cX9_back 47 = .ok (.iconst 2, 1) := by decide +kernel
theorem dX9_back_48 : decode cX9_back 48 = .ok (.iadd, 1) := by decide +kernel
theorem dX9_back_49 : decode cX9_back 49 = .ok (.iaload, 1) := by decide +kernel
theorem dX9_back_50 : decode cX9_back 50 = .ok (.invokevirtual 81, 3) := by decide +kernel
theorem dX9_back_53 : decode cX9_back 53 = .ok (.aload_n 0, 1) := by decide +kernel
theorem dX9_back_54 : decode cX9_back 54 = .ok (.aload_n 0, 1) := by decide +kernel
theorem dX9_back_55 : decode cX9_back 55 = .ok (.getfield 39, 3) := by decide +kernel
theorem dX9_back_58 : decode cX9_back 58 = .ok (.iload_n 1, 1) := by decide +kernel
theorem dX9_back_59 : decode cX9_back 59 = .ok (.iaload, 1) := by decide +kernel
theorem dX9_back_60 : decode cX9_back 60 = .ok (.putfield 85, 3) := by decide +kernel
theorem dX9_back_63 : decode cX9_back 63 = .ok (.iconst 0, 1) := by decide +kernel
theorem dX9_back_64 : decode cX9_back 64 = .ok (.istore_n 2, 1) := by decide +kernel
theorem dX9_back_65 : decode cX9_back 65 = .ok (.iload_n 2, 1) := by decide +kernel
theorem dX9_back_66 : decode cX9_back 66 = .ok (.sipush 729, 3) := by decide +kernel
theorem dX9_back_69 : decode cX9_back 69 = .ok (.if_icmp .ge 27, 3) := by decide +kernel
theorem dX9_back_72 : decode cX9_back 72 = .ok (.aload_n 0, 1) := by decide +kernel
theorem dX9_back_73 : decode cX9_back 73 = .ok (.getfield 17, 3) := by decide +kernel
theorem dX9_back_76 : decode cX9_back 76 = .ok (.iload_n 2, 1) := by decide +kernel
theorem dX9_back_77 : decode cX9_back 77 = .ok (.aload_n 0, 1) := by decide +kernel
theorem dX9_back_78 : decode cX9_back 78 = .ok (.getfield 33, 3) := by decide +kernel
theorem dX9_back_81 : decode cX9_back 81 = .ok (.sipush 729, 3) := by decide +kernel
theorem dX9_back_84 : decode cX9_back 84 = .ok (.iload_n 1, 1) := by decide +kernel
theorem dX9_back_85 : decode cX9_back 85 = .ok (.imul, 1) := by decide +kernel
theorem dX9_back_86 : decode cX9_back 86 = .ok (.iload_n 2, 1) := by decide +kernel
theorem dX9_back_87 : decode cX9_back 87 = .ok (.iadd, 1) := by decide +kernel
theorem dX9_back_88 : decode cX9_back 88 = .ok (.iaload, 1) := by decide +kernel
theorem dX9_back_89 : decode cX9_back 89 = .ok (.iastore, 1) := by decide +kernel
theorem dX9_back_90 : decode cX9_back 90 = .ok (.iinc 2 1, 3) := by decide +kernel
theorem dX9_back_93 : decode cX9_back 93 = .ok (.goto (-28), 3) := by decide +kernel
theorem dX9_back_96 : decode cX9_back 96 = .ok (.iconst 0, 1) := by decide +kernel
theorem dX9_back_97 : decode cX9_back 97 = .ok (.istore_n 2, 1) := by decide +kernel
theorem dX9_back_98 : decode cX9_back 98 = .ok (.iload_n 2, 1) := by decide +kernel
theorem dX9_back_99 : decode cX9_back 99 = .ok (.bipush 27, 2) := by decide +kernel
theorem dX9_back_101 : decode cX9_back 101 = .ok (.aload_n 0, 1) := by decide +kernel
theorem dX9_back_102 : decode cX9_back 102 = .ok (.getfield 85, 3) := by decide +kernel
theorem dX9_back_105 : decode cX9_back 105 = .ok (.imul, 1) := by decide +kernel
theorem dX9_back_106 : decode cX9_back 106 = .ok (.if_icmp .ge 27, 3) := by decide +kernel
theorem dX9_back_109 : decode cX9_back 109 = .ok (.aload_n 0, 1) := by decide +kernel
theorem dX9_back_110 : decode cX9_back 110 = .ok (.getfield 20, 3) := by decide +kernel
theorem dX9_back_113 : decode cX9_back 113 = .ok (.iload_n 2, 1) := by decide +kernel
theorem dX9_back_114 : decode cX9_back 114 = .ok (.aload_n 0, 1) := by decide +kernel
theorem dX9_back_115 : decode cX9_back 115 = .ok (.getfield 36, 3) := by decide +kernel
theorem dX9_back_118 : decode cX9_back 118 = .ok (.sipush 1080, 3) := by decide +kernel
theorem dX9_back_121 : decode cX9_back 121 = .ok (.iload_n 1, 1) := by decide +kernel
theorem dX9_back_122 : decode cX9_back 122 = .ok (.imul, 1) := by decide +kernel
theorem dX9_back_123 : decode cX9_back 123 = .ok (.iload_n 2, 1) := by decide +kernel
theorem dX9_back_124 : decode cX9_back 124 = .ok (.iadd, 1) := by decide +kernel
theorem dX9_back_125 : decode cX9_back 125 = .ok (.iaload, 1) := by decide +kernel
theorem dX9_back_126 : decode cX9_back 126 = .ok (.iastore, 1) := by decide +kernel
theorem dX9_back_127 : decode cX9_back 127 = .ok (.iinc 2 1, 3) := by decide +kernel
theorem dX9_back_130 : decode cX9_back 130 = .ok (.goto (-32), 3) := by decide +kernel
theorem dX9_back_133 : decode cX9_back 133 = .ok (.iconst 1, 1) := by decide +kernel
theorem dX9_back_134 : decode cX9_back 134 = .ok (.ireturn, 1) := by decide +kernel
theorem dX9_beside_0 : decode cX9_beside 0 = .ok (.iload_n 1, 1) := by decide +kernel
theorem dX9_beside_1 : decode cX9_beside 1 = .ok (.invokestatic 257, 3) := by decide +kernel
theorem dX9_beside_4 : decode cX9_beside 4 = .ok (.ifCond .ne 5, 3) := by decide +kernel
theorem dX9_beside_7 : decode cX9_beside 7 = .ok (.iconst (-1), 1) := by decide +kernel
theorem dX9_beside_8 : decode cX9_beside 8 = .ok (.ireturn, 1) := by decide +kernel
theorem dX9_beside_9 : decode cX9_beside 9 = .ok (.aload_n 0, 1) := by decide +kernel
theorem dX9_beside_10 : decode cX9_beside 10 = .ok (.getfield 26, 3) := by decide +kernel
theorem dX9_beside_13 : decode cX9_beside 13 = .ok (.iload_n 1, 1) := by decide +kernel
theorem dX9_beside_14 : decode cX9_beside 14 = .ok (.baload, 1) := by decide +kernel
theorem dX9_beside_15 : decode cX9_beside 15 = .ok (.ifCond .ne 6, 3) := by decide +kernel
theorem dX9_beside_18 : decode cX9_beside 18 = .ok (.bipush (-4), 2) := by decide +kernel
theorem dX9_beside_20 : decode cX9_beside 20 = .ok (.ireturn, 1) := by decide +kernel
theorem dX9_beside_21 : decode cX9_beside 21 = .ok (.aload_n 0, 1) := by decide +kernel
theorem dX9_beside_22 : decode cX9_beside 22 = .ok (.getfield 30, 3) := by decide +kernel
theorem dX9_beside_25 : decode cX9_beside 25 = .ok (.astore_n 2, 1) := by decide +kernel
theorem dX9_beside_26 : decode cX9_beside 26 = .ok (.aload_n 0, 1) := by decide +kernel
theorem dX9_beside_27 : decode cX9_beside 27 = .ok (.getfield 13, 3) := by decide +kernel
theorem dX9_beside_30 : decode cX9_beside 30 = .ok (.iconst 0, 1) := by decide +kernel
theorem dX9_beside_31 : decode cX9_beside 31 = .ok (.iaload, 1) := by decide +kernel
theorem dX9_beside_32 : decode cX9_beside 32 = .ok (.aload_n 2, 1) := by decide +kernel
theorem dX9_beside_33 : decode cX9_beside 33 = .ok (.iconst 3, 1) := by decide +kernel
theorem dX9_beside_34 : decode cX9_beside 34 = .ok (.iload_n 1, 1) := by decide +kernel
theorem dX9_beside_35 : decode cX9_beside 35 = .ok (.imul, 1) := by decide +kernel
theorem dX9_beside_36 : decode cX9_beside 36 = .ok (.iaload, 1) := by decide +kernel
theorem dX9_beside_37 : decode cX9_beside 37 = .ok (.iadd, 1) := by decide +kernel
theorem dX9_beside_38 : decode cX9_beside 38 = .ok (.aload_n 0, 1) := by decide +kernel
theorem dX9_beside_39 : decode cX9_beside 39 = .ok (.getfield 13, 3) := by decide +kernel
theorem dX9_beside_42 : decode cX9_beside 42 = .ok (.iconst 1, 1) := by decide +kernel
theorem dX9_beside_43 : decode cX9_beside 43 = .ok (.iaload, 1) := by decide +kernel
theorem dX9_beside_44 : decode cX9_beside 44 = .ok (.aload_n 2, 1) := by decide +kernel
theorem dX9_beside_45 : decode cX9_beside 45 = .ok (.iconst 3, 1) := by decide +kernel
theorem dX9_beside_46 : decode cX9_beside 46 = .ok (.iload_n 1, 1) := by decide +kernel
theorem dX9_beside_47 : decode cX9_beside 47 = .ok (.imul, 1) := by decide +kernel
theorem dX9_beside_48 : decode cX9_beside 48 = .ok (.iconst 1, 1) := by decide +kernel
theorem dX9_beside_49 : decode cX9_beside 49 = .ok (.iadd, 1) := by decide +kernel
theorem dX9_beside_50 : decode cX9_beside 50 = .ok (.iaload, 1) := by decide +kernel
theorem dX9_beside_51 : decode cX9_beside 51 = .ok (.iadd, 1) := by decide +kernel
theorem dX9_beside_52 : decode cX9_beside 52 = .ok (.aload_n 0, 1) := by decide +kernel
theorem dX9_beside_53 : decode cX9_beside 53 = .ok (.getfield 13, 3) := by decide +kernel
theorem dX9_beside_56 : decode cX9_beside 56 = .ok (.iconst 2, 1) := by decide +kernel
theorem dX9_beside_57 : decode cX9_beside 57 = .ok (.iaload, 1) := by decide +kernel
theorem dX9_beside_58 : decode cX9_beside 58 = .ok (.aload_n 2, 1) := by decide +kernel
theorem dX9_beside_59 : decode cX9_beside 59 = .ok (.iconst 3, 1) := by decide +kernel
theorem dX9_beside_60 : decode cX9_beside 60 = .ok (.iload_n 1, 1) := by decide +kernel
theorem dX9_beside_61 : decode cX9_beside 61 = .ok (.imul, 1) := by decide +kernel
theorem dX9_beside_62 : decode cX9_beside 62 = .ok (.iconst 2, 1) := by decide +kernel
theorem dX9_beside_63 : decode cX9_beside 63 = .ok (.iadd, 1) := by decide +kernel
theorem dX9_beside_64 : decode cX9_beside 64 = .ok (.iaload, 1) := by decide +kernel
theorem dX9_beside_65 : decode cX9_beside 65 = .ok (.iadd, 1) := by decide +kernel
theorem dX9_beside_66 : decode cX9_beside 66 = .ok (.invokestatic 101, 3) := by decide +kernel
theorem dX9_beside_69 : decode cX9_beside 69 = .ok (.ifCond .ne 6, 3) := by decide +kernel
theorem dX9_beside_72 : decode cX9_beside 72 = .ok (.bipush (-3), 2) := by decide +kernel
theorem dX9_beside_74 : decode cX9_beside 74 = .ok (.ireturn, 1) := by decide +kernel
theorem dX9_beside_75 : decode cX9_beside 75 = .ok (.aload_n 0, 1) := by decide +kernel
theorem dX9_beside_76 : decode cX9_beside 76 = .ok (.getfield 85, 3) := by decide +kernel
theorem dX9_beside_79 : decode cX9_beside 79 = .ok (.aload_n 0, 1) := by decide +kernel
theorem dX9_beside_80 : decode cX9_beside 80 = .ok (.getfield 39, 3) := by decide +kernel
theorem dX9_beside_83 : decode cX9_beside 83 = .ok (.iload_n 1, 1) := by decide +kernel
theorem dX9_beside_84 : decode cX9_beside 84 = .ok (.iaload, 1) := by decide +kernel
theorem dX9_beside_85 : decode cX9_beside 85 = .ok (.iadd, 1) := by decide +kernel
theorem dX9_beside_86 : decode cX9_beside 86 = .ok (.bipush 40, 2) := by decide +kernel
theorem dX9_beside_88 : decode cX9_beside 88 = .ok (.if_icmp .le 6, 3) := by decide +kernel
theorem dX9_beside_91 : decode cX9_beside 91 = .ok (.bipush (-2), 2) := by decide +kernel
theorem dX9_beside_93 : decode cX9_beside 93 = .ok (.ireturn, 1) := by decide +kernel
theorem dX9_beside_94 : decode cX9_beside 94 = .ok (.iconst 0, 1) := by decide +kernel
theorem dX9_beside_95 : decode cX9_beside 95 = .ok (.istore_n 3, 1) := by decide +kernel
theorem dX9_beside_96 : decode cX9_beside 96 = .ok (.iload_n 3, 1) := by decide +kernel
theorem dX9_beside_97 : decode cX9_beside 97 = .ok (.aload_n 2, 1) := by decide +kernel
theorem dX9_beside_98 : decode cX9_beside 98 = .ok (.iconst 3, 1) := by decide +kernel
theorem dX9_beside_99 : decode cX9_beside 99 = .ok (.iload_n 1, 1) := by decide +kernel
theorem dX9_beside_100 : decode cX9_beside 100 = .ok (.imul, 1) := by decide +kernel
theorem dX9_beside_101 : decode cX9_beside 101 = .ok (.iaload, 1) := by decide +kernel
theorem dX9_beside_102 : decode cX9_beside 102 = .ok (.if_icmp .ge 114, 3) := by decide +kernel
theorem dX9_beside_105 : decode cX9_beside 105 = .ok (.iconst 0, 1) := by decide +kernel
theorem dX9_beside_106 : decode cX9_beside 106 = .ok (.istore 4, 2) := by decide +kernel
theorem dX9_beside_108 : decode cX9_beside 108 = .ok (.iload 4, 2) := by decide +kernel
theorem dX9_beside_110 : decode cX9_beside 110 = .ok (.aload_n 2, 1) := by decide +kernel
theorem dX9_beside_111 : decode cX9_beside 111 = .ok (.iconst 3, 1) := by decide +kernel
theorem dX9_beside_112 : decode cX9_beside 112 = .ok (.iload_n 1, 1) := by decide +kernel
theorem dX9_beside_113 : decode cX9_beside 113 = .ok (.imul, 1) := by decide +kernel
theorem dX9_beside_114 : decode cX9_beside 114 = .ok (.iconst 1, 1) := by decide +kernel
theorem dX9_beside_115 : decode cX9_beside 115 = .ok (.iadd, 1) := by decide +kernel
theorem dX9_beside_116 : decode cX9_beside 116 = .ok (.iaload, 1) := by decide +kernel
theorem dX9_beside_117 : decode cX9_beside 117 = .ok (.if_icmp .ge 93, 3) := by decide +kernel
theorem dX9_beside_120 : decode cX9_beside 120 = .ok (.iconst 0, 1) := by decide +kernel
theorem dX9_beside_121 : decode cX9_beside 121 = .ok (.istore 5, 2) := by decide +kernel
theorem dX9_beside_123 : decode cX9_beside 123 = .ok (.iload 5, 2) := by decide +kernel
theorem dX9_beside_125 : decode cX9_beside 125 = .ok (.aload_n 2, 1) := by decide +kernel
theorem dX9_beside_126 : decode cX9_beside 126 = .ok (.iconst 3, 1) := by decide +kernel
theorem dX9_beside_127 : decode cX9_beside 127 = .ok (.iload_n 1, 1) := by decide +kernel
theorem dX9_beside_128 : decode cX9_beside 128 = .ok (.imul, 1) := by decide +kernel
theorem dX9_beside_129 : decode cX9_beside 129 = .ok (.iconst 2, 1) := by decide +kernel
theorem dX9_beside_130 : decode cX9_beside 130 = .ok (.iadd, 1) := by decide +kernel
theorem dX9_beside_131 : decode cX9_beside 131 = .ok (.iaload, 1) := by decide +kernel
theorem dX9_beside_132 : decode cX9_beside 132 = .ok (.if_icmp .ge 72, 3) := by decide +kernel
theorem dX9_beside_135 : decode cX9_beside 135 = .ok (.aload_n 0, 1) := by decide +kernel
theorem dX9_beside_136 : decode cX9_beside 136 = .ok (.getfield 17, 3) := by decide +kernel
theorem dX9_beside_139 : decode cX9_beside 139 = .ok (.bipush 81, 2) := by decide +kernel
theorem dX9_beside_141 : decode cX9_beside 141 = .ok (.aload_n 0, 1) := by decide +kernel
theorem dX9_beside_142 : decode cX9_beside 142 = .ok (.getfield 13, 3) := by decide +kernel
theorem dX9_beside_145 : decode cX9_beside 145 = .ok (.iconst 0, 1) := by decide +kernel
theorem dX9_beside_146 : decode cX9_beside 146 = .ok (.iaload, 1) := by decide +kernel
theorem dX9_beside_147 : decode cX9_beside 147 = .ok (.iload_n 3, 1) := by decide +kernel
theorem dX9_beside_148 : decode cX9_beside 148 = .ok (.iadd, 1) := by decide +kernel
theorem dX9_beside_149 : decode cX9_beside 149 = .ok (.imul, 1) := by decide +kernel
theorem dX9_beside_150 : decode cX9_beside 150 = .ok (.bipush 9, 2) := by decide +kernel
theorem dX9_beside_152 : decode cX9_beside 152 = .ok (.aload_n 0, 1) := by decide +kernel
theorem dX9_beside_153 : decode cX9_beside 153 = .ok (.getfield 13, 3) := by decide +kernel
theorem dX9_beside_156 : decode cX9_beside 156 = .ok (.iconst 1, 1) := by decide +kernel
theorem dX9_beside_157 : decode cX9_beside 157 = .ok (.iaload, 1) := by decide +kernel
theorem dX9_beside_158 : decode cX9_beside 158 = .ok (.iload 4, 2) := by decide +kernel
theorem dX9_beside_160 : decode cX9_beside 160 = .ok (.iadd, 1) := by decide +kernel
theorem dX9_beside_161 : decode cX9_beside 161 = .ok (.imul, 1) := by decide +kernel
theorem dX9_beside_162 : decode cX9_beside 162 = .ok (.iadd, 1) := by decide +kernel
theorem dX9_beside_163 : decode cX9_beside 163 = .ok (.aload_n 0, 1) := by decide +kernel
theorem dX9_beside_164 : decode cX9_beside 164 = .ok (.getfield 13, 3) := by decide +kernel
theorem dX9_beside_167 : decode cX9_beside 167 = .ok (.iconst 2, 1) := by decide +kernel
theorem dX9_beside_168 : decode cX9_beside 168 = .ok (.iaload, 1) := by decide +kernel
theorem dX9_beside_169 : decode cX9_beside 169 = .ok (.iadd, 1) := by decide +kernel
theorem dX9_beside_170 : decode cX9_beside 170 = .ok (.iload 5, 2) := by decide +kernel
theorem dX9_beside_172 : decode cX9_beside 172 = .ok (.iadd, 1) := by decide +kernel
theorem dX9_beside_173 : decode cX9_beside 173 = .ok (.aload_n 0, 1) := by decide +kernel
theorem dX9_beside_174 : decode cX9_beside 174 = .ok (.getfield 33, 3) := by decide +kernel
theorem dX9_beside_177 : decode cX9_beside 177 = .ok (.sipush 729, 3) := by decide +kernel
theorem dX9_beside_180 : decode cX9_beside 180 = .ok (.iload_n 1, 1) := by decide +kernel
theorem dX9_beside_181 : decode cX9_beside 181 = .ok (.imul, 1) := by decide +kernel
theorem dX9_beside_182 : decode cX9_beside 182 = .ok (.bipush 81, 2) := by decide +kernel
theorem dX9_beside_184 : decode cX9_beside 184 = .ok (.iload_n 3, 1) := by decide +kernel
theorem dX9_beside_185 : decode cX9_beside 185 = .ok (.imul, 1) := by decide +kernel
theorem dX9_beside_186 : decode cX9_beside 186 = .ok (.iadd, 1) := by decide +kernel
theorem dX9_beside_187 : decode cX9_beside 187 = .ok (.bipush 9, 2) := by decide +kernel
theorem dX9_beside_189 : decode cX9_beside 189 = .ok (.iload 4, 2) := by decide +kernel
theorem dX9_beside_191 : decode cX9_beside 191 = .ok (.imul, 1) := by decide +kernel
theorem dX9_beside_192 : decode cX9_beside 192 = .ok (.iadd, 1) := by decide +kernel
theorem dX9_beside_193 : decode cX9_beside 193 = .ok (.iload 5, 2) := by decide +kernel
theorem dX9_beside_195 : decode cX9_beside 195 = .ok (.iadd, 1) := by decide +kernel
theorem dX9_beside_196 : decode cX9_beside 196 = .ok (.iaload, 1) := by decide +kernel
theorem dX9_beside_197 : decode cX9_beside 197 = .ok (.iastore, 1) := by decide +kernel
theorem dX9_beside_198 : decode cX9_beside 198 = .ok (.iinc 5 1, 3) := by decide +kernel
theorem dX9_beside_201 : decode cX9_beside 201 = .ok (.goto (-78), 3) := by decide +kernel
theorem dX9_beside_204 : decode cX9_beside 204 = .ok (.iinc 4 1, 3) := by decide +kernel
theorem dX9_beside_207 : decode cX9_beside 207 = .ok (.goto (-99), 3) := by decide +kernel
theorem dX9_beside_210 : decode cX9_beside 210 = .ok (.iinc 3 1, 3) := by decide +kernel
theorem dX9_beside_213 : decode cX9_beside 213 = .ok (.goto (-117), 3) := by decide +kernel
theorem dX9_beside_216 : decode cX9_beside 216 = .ok (.iconst 0, 1) := by decide +kernel
theorem dX9_beside_217 : decode cX9_beside 217 = .ok (.istore_n 3, 1) := by decide +kernel
theorem dX9_beside_218 : decode cX9_beside 218 = .ok (.iload_n 3, 1) := by decide +kernel
theorem dX9_beside_219 : decode cX9_beside 219 = .ok (.aload_n 0, 1) := by decide +kernel
theorem dX9_beside_220 : decode cX9_beside 220 = .ok (.getfield 39, 3) := by decide +kernel
theorem dX9_beside_223 : decode cX9_beside 223 = .ok (.iload_n 1, 1) := by decide +kernel
theorem dX9_beside_224 : decode cX9_beside 224 = .ok (.iaload, 1) := by decide +kernel
theorem dX9_beside_225 : decode cX9_beside 225 = .ok (.if_icmp .ge 135, 3) := by decide +kernel
theorem dX9_beside_228 : decode cX9_beside 228 = .ok (.iconst 0, 1) := by decide +kernel
theorem dX9_beside_229 : decode cX9_beside 229 = .ok (.istore 4, 2) := by decide +kernel
theorem dX9_beside_231 : decode cX9_beside 231 = .ok (.iload 4, 2) := by decide +kernel
theorem dX9_beside_233 : decode cX9_beside 233 = .ok (.bipush 27, 2) := by decide +kernel
theorem dX9_beside_235 : decode cX9_beside 235 = .ok (.if_icmp .ge 27, 3) := by decide +kernel
theorem dX9_beside_238 : decode cX9_beside 238 = .ok (.aload_n 0, 1) := by decide +kernel
theorem dX9_beside_239 : decode cX9_beside 239 = .ok (.getfield 20, 3) := by decide +kernel
theorem dX9_beside_242 : decode cX9_beside 242 = .ok (.bipush 27, 2) := by decide +kernel
theorem dX9_beside_244 : decode cX9_beside 244 = .ok (.aload_n 0, 1) := by decide +kernel
theorem dX9_beside_245 : decode cX9_beside 245 = .ok (.getfield 85, 3) := by decide +kernel
theorem dX9_beside_248 : decode cX9_beside 248 = .ok (.iload_n 3, 1) := by decide +kernel
theorem dX9_beside_249 : decode cX9_beside 249 = .ok (.iadd, 1) := by decide +kernel
theorem dX9_beside_250 : decode cX9_beside 250 = .ok (.imul, 1) := by decide +kernel
theorem dX9_beside_251 : decode cX9_beside 251 = .ok (.iload 4, 2) := by decide +kernel
theorem dX9_beside_253 : decode cX9_beside 253 = .ok (.iadd, 1) := by decide +kernel
theorem dX9_beside_254 : decode cX9_beside 254 = .ok (.iconst 0, 1) := by decide +kernel
theorem dX9_beside_255 : decode cX9_beside 255 = .ok (.iastore, 1) := by decide +kernel
theorem dX9_beside_256 : decode cX9_beside 256 = .ok (.iinc 4 1, 3) := by decide +kernel
theorem dX9_beside_259 : decode cX9_beside 259 = .ok (.goto (-28), 3) := by decide +kernel
theorem dX9_beside_262 : decode cX9_beside 262 = .ok (.iconst 0, 1) := by decide +kernel
theorem dX9_beside_263 : decode cX9_beside 263 = .ok (.istore 4, 2) := by decide +kernel
theorem dX9_beside_265 : decode cX9_beside 265 = .ok (.iload 4, 2) := by decide +kernel
theorem dX9_beside_267 : decode cX9_beside 267 = .ok (.iconst 3, 1) := by decide +kernel
theorem dX9_beside_268 : decode cX9_beside 268 = .ok (.if_icmp .ge 86, 3) := by decide +kernel
theorem dX9_beside_271 : decode cX9_beside 271 = .ok (.iconst 0, 1) := by decide +kernel
theorem dX9_beside_272 : decode cX9_beside 272 = .ok (.istore 5, 2) := by decide +kernel
theorem dX9_beside_274 : decode cX9_beside 274 = .ok (.iload 5, 2) := by decide +kernel
theorem dX9_beside_276 : decode cX9_beside 276 = .ok (.aload_n 2, 1) := by decide +kernel
theorem dX9_beside_277 : decode cX9_beside 277 = .ok (.iconst 3, 1) := by decide +kernel
theorem dX9_beside_278 : decode cX9_beside 278 = .ok (.iload_n 1, 1) := by decide +kernel
theorem dX9_beside_279 : decode cX9_beside 279 = .ok (.imul, 1) := by decide +kernel
theorem dX9_beside_280 : decode cX9_beside 280 = .ok (.iload 4, 2) := by decide +kernel
theorem dX9_beside_282 : decode cX9_beside 282 = .ok (.iadd, 1) := by decide +kernel
theorem dX9_beside_283 : decode cX9_beside 283 = .ok (.iaload, 1) := by decide +kernel
theorem dX9_beside_284 : decode cX9_beside 284 = .ok (.if_icmp .ge 64, 3) := by decide +kernel
theorem dX9_beside_287 : decode cX9_beside 287 = .ok (.aload_n 0, 1) := by decide +kernel
theorem dX9_beside_288 : decode cX9_beside 288 = .ok (.getfield 20, 3) := by decide +kernel
theorem dX9_beside_291 : decode cX9_beside 291 = .ok (.bipush 27, 2) := by decide +kernel
theorem dX9_beside_293 : decode cX9_beside 293 = .ok (.aload_n 0, 1) := by decide +kernel
theorem dX9_beside_294 : decode cX9_beside 294 = .ok (.getfield 85, 3) := by decide +kernel
theorem dX9_beside_297 : decode cX9_beside 297 = .ok (.iload_n 3, 1) := by decide +kernel
theorem dX9_beside_298 : decode cX9_beside 298 = .ok (.iadd, 1) := by decide +kernel
theorem dX9_beside_299 : decode cX9_beside 299 = .ok (.imul, 1) := by decide +kernel
theorem dX9_beside_300 : decode cX9_beside 300 = .ok (.bipush 9, 2) := by decide +kernel
theorem dX9_beside_302 : decode cX9_beside 302 = .ok (.iload 4, 2) := by decide +kernel
theorem dX9_beside_304 : decode cX9_beside 304 = .ok (.imul, 1) := by decide +kernel
theorem dX9_beside_305 : decode cX9_beside 305 = .ok (.iadd, 1) := by decide +kernel
theorem dX9_beside_306 : decode cX9_beside 306 = .ok (.aload_n 0, 1) := by decide +kernel
theorem dX9_beside_307 : decode cX9_beside 307 = .ok (.getfield 13, 3) := by decide +kernel
theorem dX9_beside_310 : decode cX9_beside 310 = .ok (.iload 4, 2) := by decide +kernel
theorem dX9_beside_312 : decode cX9_beside 312 = .ok (.iaload, 1) := by decide +kernel
theorem dX9_beside_313 : decode cX9_beside 313 = .ok (.iadd, 1) := by decide +kernel
theorem dX9_beside_314 : decode cX9_beside 314 = .ok (.iload 5, 2) := by decide +kernel
theorem dX9_beside_316 : decode cX9_beside 316 = .ok (.iadd, 1) := by decide +kernel
theorem dX9_beside_317 : decode cX9_beside 317 = .ok (.aload_n 0, 1) := by decide +kernel
theorem dX9_beside_318 : decode cX9_beside 318 = .ok (.getfield 36, 3) := by decide +kernel
theorem dX9_beside_321 : decode cX9_beside 321 = .ok (.sipush 1080, 3) := by decide +kernel
theorem dX9_beside_324 : decode cX9_beside 324 = .ok (.iload_n 1, 1) := by decide +kernel
theorem dX9_beside_325 : decode cX9_beside 325 = .ok (.imul, 1) := by decide +kernel
theorem dX9_beside_326 : decode cX9_beside 326 = .ok (.bipush 27, 2) := by decide +kernel
theorem dX9_beside_328 : decode cX9_beside 328 = .ok (.iload_n 3, 1) := by decide +kernel
theorem dX9_beside_329 : decode cX9_beside 329 = .ok (.imul, 1) := by decide +kernel
theorem dX9_beside_330 : decode cX9_beside 330 = .ok (.iadd, 1) := by decide +kernel
theorem dX9_beside_331 : decode cX9_beside 331 = .ok (.bipush 9, 2) := by decide +kernel
theorem dX9_beside_333 : decode cX9_beside 333 = .ok (.iload 4, 2) := by decide +kernel
theorem dX9_beside_335 : decode cX9_beside 335 = .ok (.imul, 1) := by decide +kernel
theorem dX9_beside_336 : decode cX9_beside 336 = .ok (.iadd, 1) := by decide +kernel
theorem dX9_beside_337 : decode cX9_beside 337 = .ok (.iload 5, 2) := by decide +kernel
theorem dX9_beside_339 : decode cX9_beside 339 = .ok (.iadd, 1) := by decide +kernel
theorem dX9_beside_340 : decode cX9_beside 340 = .ok (.iaload, 1) := by decide +kernel
theorem dX9_beside_341 : decode cX9_beside 341 = .ok (.iastore, 1) := by decide +kernel
theorem dX9_beside_342 : decode cX9_beside 342 = .ok (.iinc 5 1, 3) := by decide +kernel
theorem dX9_beside_345 : decode cX9_beside 345 = .ok (.goto (-71), 3) := by decide +kernel
theorem dX9_beside_348 : decode cX9_beside 348 = .ok (.iinc 4 1, 3) := by decide +kernel
theorem dX9_beside_351 : decode cX9_beside 351 = .ok (.goto (-86), 3) := by decide +kernel
theorem dX9_beside_354 : decode cX9_beside 354 = .ok (.iinc 3 1, 3) := by decide +kernel
theorem dX9_beside_357 : decode cX9_beside 357 = .ok (.goto (-139), 3) := by decide +kernel
theorem dX9_beside_360 : decode cX9_beside 360 = .ok (.aload_n 0, 1) := by decide +kernel
theorem dX9_beside_361 : decode cX9_beside 361 = .ok (.dup, 1) := by decide +kernel
theorem dX9_beside_362 : decode cX9_beside 362 = .ok (.getfield 85, 3) := by decide +kernel
theorem dX9_beside_365 : decode cX9_beside 365 = .ok (.aload_n 0, 1) := by decide +kernel
theorem dX9_beside_366 : decode cX9_beside 366 = .ok (.getfield 39, 3) := by decide +kernel
theorem dX9_beside_369 : decode cX9_beside 369 = .ok (.iload_n 1, 1) := by decide +kernel
theorem dX9_beside_370 : decode cX9_beside 370 = .ok (.iaload, 1) := by decide +kernel
theorem dX9_beside_371 : decode cX9_beside 371 = .ok (.iadd, 1) := by decide +kernel
theorem dX9_beside_372 : decode cX9_beside 372 = .ok (.putfield 85, 3) := by decide +kernel
theorem dX9_beside_375 : decode cX9_beside 375 = .ok (.iconst 0, 1) := by decide +kernel
theorem dX9_beside_376 : decode cX9_beside 376 = .ok (.istore_n 3, 1) := by decide +kernel
theorem dX9_beside_377 : decode cX9_beside 377 = .ok (.iload_n 3, 1) := by decide +kernel
theorem dX9_beside_378 : decode cX9_beside 378 = .ok (.iconst 3, 1) := by decide +kernel
theorem dX9_beside_379 : decode cX9_beside 379 = .ok (.if_icmp .ge 25, 3) := by decide +kernel
theorem dX9_beside_382 : decode cX9_beside 382 = .ok (.aload_n 0, 1) := by decide +kernel
theorem dX9_beside_383 : decode cX9_beside 383 = .ok (.getfield 13, 3) := by decide +kernel
theorem dX9_beside_386 : decode cX9_beside 386 = .ok (.iload_n 3, 1) := by decide +kernel
theorem dX9_beside_387 : decode cX9_beside 387 = .ok (.dup2, 1) := by decide +kernel
theorem dX9_beside_388 : decode cX9_beside 388 = .ok (.iaload, 1) := by decide +kernel
theorem dX9_beside_389 : decode cX9_beside 389 = .ok (.aload_n 2, 1) := by decide +kernel
theorem dX9_beside_390 : decode cX9_beside 390 = .ok (.iconst 3, 1) := by decide +kernel
theorem dX9_beside_391 : decode cX9_beside 391 = .ok (.iload_n 1, 1) := by decide +kernel
theorem dX9_beside_392 : decode cX9_beside 392 = .ok (.imul, 1) := by decide +kernel
theorem dX9_beside_393 : decode cX9_beside 393 = .ok (.iload_n 3, 1) := by decide +kernel
theorem dX9_beside_394 : decode cX9_beside 394 = .ok (.iadd, 1) := by decide +kernel
theorem dX9_beside_395 : decode cX9_beside 395 = .ok (.iaload, 1) := by decide +kernel
theorem dX9_beside_396 : decode cX9_beside 396 = .ok (.iadd, 1) := by decide +kernel
theorem dX9_beside_397 : decode cX9_beside 397 = .ok (.iastore, 1) := by decide +kernel
theorem dX9_beside_398 : decode cX9_beside 398 = .ok (.iinc 3 1, 3) := by decide +kernel
theorem dX9_beside_401 : decode cX9_beside 401 = .ok (.goto (-24), 3) := by decide +kernel
theorem dX9_beside_404 : decode cX9_beside 404 = .ok (.aload_n 0, 1) := by decide +kernel
theorem dX9_beside_405 : decode cX9_beside 405 = .ok (.invokevirtual 88, 3) := by decide +kernel
theorem dX9_beside_408 : decode cX9_beside 408 = .ok (.aload_n 0, 1) := by decide +kernel
theorem dX9_beside_409 : decode cX9_beside 409 = .ok (.iconst 0, 1) := by decide +kernel
theorem dX9_beside_410 : decode cX9_beside 410 = .ok (.putfield 91, 3) := by decide +kernel
theorem dX9_beside_413 : decode cX9_beside 413 = .ok (.aload_n 0, 1) := by decide +kernel
theorem dX9_beside_414 : decode cX9_beside 414 = .ok (.getfield 85, 3) := by decide +kernel
theorem dX9_beside_417 : decode cX9_beside 417 = .ok (.ireturn, 1) := by decide +kernel
theorem dX9_within_0 : decode cX9_within 0 = .ok (.iload_n 1, 1) := by decide +kernel
theorem dX9_within_1 : decode cX9_within 1 = .ok (.invokestatic 257, 3) := by decide +kernel
theorem dX9_within_4 : decode cX9_within 4 = .ok (.ifCond .ne 5, 3) := by decide +kernel
theorem dX9_within_7 : decode cX9_within 7 = .ok (.iconst (-1), 1) := by decide +kernel
theorem dX9_within_8 : decode cX9_within 8 = .ok (.ireturn, 1) := by decide +kernel
theorem dX9_within_9 : decode cX9_within 9 = .ok (.aload_n 0, 1) := by decide +kernel
theorem dX9_within_10 : decode cX9_within 10 = .ok (.getfield 26, 3) := by decide +kernel
theorem dX9_within_13 : decode cX9_within 13 = .ok (.iload_n 1, 1) := by decide +kernel
theorem dX9_within_14 : decode cX9_within 14 = .ok (.baload, 1) := by decide +kernel
theorem dX9_within_15 : decode cX9_within 15 = .ok (.ifCond .ne 6, 3) := by decide +kernel
theorem dX9_within_18 : decode cX9_within 18 = .ok (.bipush (-4), 2) := by decide +kernel
theorem dX9_within_20 : decode cX9_within 20 = .ok (.ireturn, 1) := by decide +kernel
theorem dX9_within_21 : decode cX9_within 21 = .ok (.aload_n 0, 1) := by decide +kernel
theorem dX9_within_22 : decode cX9_within 22 = .ok (.getfield 30, 3) := by decide +kernel
theorem dX9_within_25 : decode cX9_within 25 = .ok (.iconst 3, 1) := by decide +kernel
theorem dX9_within_26 : decode cX9_within 26 = .ok (.iload_n 1, 1) := by decide +kernel
theorem dX9_within_27 : decode cX9_within 27 = .ok (.imul, 1) := by decide +kernel
theorem dX9_within_28 : decode cX9_within 28 = .ok (.iaload, 1) := by decide +kernel
theorem dX9_within_29 : decode cX9_within 29 = .ok (.istore_n 2, 1) := by decide +kernel
theorem dX9_within_30 : decode cX9_within 30 = .ok (.aload_n 0, 1) := by decide +kernel
theorem dX9_within_31 : decode cX9_within 31 = .ok (.getfield 30, 3) := by decide +kernel
theorem dX9_within_34 : decode cX9_within 34 = .ok (.iconst 3, 1) := by decide +kernel
theorem dX9_within_35 : decode cX9_within 35 = .ok (.iload_n 1, 1) := by decide +kernel
theorem dX9_within_36 : decode cX9_within 36 = .ok (.imul, 1) := by decide +kernel
theorem dX9_within_37 : decode cX9_within 37 = .ok (.iconst 1, 1) := by decide +kernel
theorem dX9_within_38 : decode cX9_within 38 = .ok (.iadd, 1) := by decide +kernel
theorem dX9_within_39 : decode cX9_within 39 = .ok (.iaload, 1) := by decide +kernel
theorem dX9_within_40 : decode cX9_within 40 = .ok (.istore_n 3, 1) := by decide +kernel
theorem dX9_within_41 : decode cX9_within 41 = .ok (.aload_n 0, 1) := by decide +kernel
theorem dX9_within_42 : decode cX9_within 42 = .ok (.getfield 30, 3) := by decide +kernel
theorem dX9_within_45 : decode cX9_within 45 = .ok (.iconst 3, 1) := by decide +kernel
theorem dX9_within_46 : decode cX9_within 46 = .ok (.iload_n 1, 1) := by decide +kernel
theorem dX9_within_47 : decode cX9_within 47 = .ok (.imul, 1) := by decide +kernel
theorem dX9_within_48 : decode cX9_within 48 = .ok (.iconst 2, 1) := by decide +kernel
theorem dX9_within_49 : decode cX9_within 49 = .ok (.iadd, 1) := by decide +kernel
theorem dX9_within_50 : decode cX9_within 50 = .ok (.iaload, 1) := by decide +kernel
theorem dX9_within_51 : decode cX9_within 51 = .ok (.istore 4, 2) := by decide +kernel
theorem dX9_within_53 : decode cX9_within 53 = .ok (.aload_n 0, 1) := by decide +kernel
theorem dX9_within_54 : decode cX9_within 54 = .ok (.getfield 13, 3) := by decide +kernel
theorem dX9_within_57 : decode cX9_within 57 = .ok (.iconst 0, 1) := by decide +kernel
theorem dX9_within_58 : decode cX9_within 58 = .ok (.iaload, 1) := by decide +kernel
theorem dX9_within_59 : decode cX9_within 59 = .ok (.iload_n 2, 1) := by decide +kernel
theorem dX9_within_60 : decode cX9_within 60 = .ok (.imul, 1) := by decide +kernel
theorem dX9_within_61 : decode cX9_within 61 = .ok (.aload_n 0, 1) := by decide +kernel
theorem dX9_within_62 : decode cX9_within 62 = .ok (.getfield 13, 3) := by decide +kernel
theorem dX9_within_65 : decode cX9_within 65 = .ok (.iconst 1, 1) := by decide +kernel
theorem dX9_within_66 : decode cX9_within 66 = .ok (.iaload, 1) := by decide +kernel
theorem dX9_within_67 : decode cX9_within 67 = .ok (.iload_n 3, 1) := by decide +kernel
theorem dX9_within_68 : decode cX9_within 68 = .ok (.imul, 1) := by decide +kernel
theorem dX9_within_69 : decode cX9_within 69 = .ok (.aload_n 0, 1) := by decide +kernel
theorem dX9_within_70 : decode cX9_within 70 = .ok (.getfield 13, 3) := by decide +kernel
theorem dX9_within_73 : decode cX9_within 73 = .ok (.iconst 2, 1) := by decide +kernel
theorem dX9_within_74 : decode cX9_within 74 = .ok (.iaload, 1) := by decide +kernel
theorem dX9_within_75 : decode cX9_within 75 = .ok (.iload 4, 2) := by decide +kernel
theorem dX9_within_77 : decode cX9_within 77 = .ok (.imul, 1) := by decide +kernel
theorem dX9_within_78 : decode cX9_within 78 = .ok (.invokestatic 101, 3) := by decide +kernel
theorem dX9_within_81 : decode cX9_within 81 = .ok (.ifCond .ne 6, 3) := by decide +kernel
theorem dX9_within_84 : decode cX9_within 84 = .ok (.bipush (-3), 2) := by decide +kernel
theorem dX9_within_86 : decode cX9_within 86 = .ok (.ireturn, 1) := by decide +kernel
theorem dX9_within_87 : decode cX9_within 87 = .ok (.aload_n 0, 1) := by decide +kernel
theorem dX9_within_88 : decode cX9_within 88 = .ok (.getfield 85, 3) := by decide +kernel
theorem dX9_within_91 : decode cX9_within 91 = .ok (.aload_n 0, 1) := by decide +kernel
theorem dX9_within_92 : decode cX9_within 92 = .ok (.getfield 39, 3) := by decide +kernel
theorem dX9_within_95 : decode cX9_within 95 = .ok (.iload_n 1, 1) := by decide +kernel
theorem dX9_within_96 : decode cX9_within 96 = .ok (.iaload, 1) := by decide +kernel
theorem dX9_within_97 : decode cX9_within 97 = .ok (.imul, 1) := by decide +kernel
theorem dX9_within_98 : decode cX9_within 98 = .ok (.bipush 40, 2) := by decide +kernel
theorem dX9_within_100 : decode cX9_within 100 = .ok (.if_icmp .le 6, 3) := by decide +kernel
theorem dX9_within_103 : decode cX9_within 103 = .ok (.bipush (-2), 2) := by decide +kernel
theorem dX9_within_105 : decode cX9_within 105 = .ok (.ireturn, 1) := by decide +kernel
theorem dX9_within_106 : decode cX9_within 106 = .ok (.iconst 0, 1) := by decide +kernel
theorem dX9_within_107 : decode cX9_within 107 = .ok (.istore 5, 2) := by decide +kernel
theorem dX9_within_109 : decode cX9_within 109 = .ok (.iload 5, 2) := by decide +kernel
theorem dX9_within_111 : decode cX9_within 111 = .ok (.sipush 729, 3) := by decide +kernel
theorem dX9_within_114 : decode cX9_within 114 = .ok (.if_icmp .ge 160, 3) := by decide +kernel
theorem dX9_within_117 : decode cX9_within 117 = .ok (.iload 5, 2) := by decide +kernel
theorem dX9_within_119 : decode cX9_within 119 = .ok (.bipush 81, 2) := by decide +kernel
theorem dX9_within_121 : decode cX9_within 121 = .ok (.idiv, 1) := by decide +kernel
theorem dX9_within_122 : decode cX9_within 122 = .ok (.istore 6, 2) := by decide +kernel
theorem dX9_within_124 : decode cX9_within 124 = .ok (.iload 5, 2) := by decide +kernel
theorem dX9_within_126 : decode cX9_within 126 = .ok (.bipush 9, 2) := by decide +kernel
theorem dX9_within_128 : decode cX9_within 128 = .ok (.idiv, 1) := by decide +kernel
theorem dX9_within_129 : decode cX9_within 129 = .ok (.bipush 9, 2) := by decide +kernel
theorem dX9_within_131 : decode cX9_within 131 = .ok (.irem, 1) := by decide +kernel
theorem dX9_within_132 : decode cX9_within 132 = .ok (.istore 7, 2) := by decide +kernel
theorem dX9_within_134 : decode cX9_within 134 = .ok (.iload 5, 2) := by decide +kernel
theorem dX9_within_136 : decode cX9_within 136 = .ok (.bipush 9, 2) := by decide +kernel
theorem dX9_within_138 : decode cX9_within 138 = .ok (.irem, 1) := by decide +kernel
theorem dX9_within_139 : decode cX9_within 139 = .ok (.istore 8, 2) := by decide +kernel
theorem dX9_within_141 : decode cX9_within 141 = .ok (.iload 6, 2) := by decide +kernel
theorem dX9_within_143 : decode cX9_within 143 = .ok (.aload_n 0, 1) := by decide +kernel
theorem dX9_within_144 : decode cX9_within 144 = .ok (.getfield 13, 3) := by decide +kernel
theorem dX9_within_147 : decode cX9_within 147 = .ok (.iconst 0, 1) := by decide +kernel
theorem dX9_within_148 : decode cX9_within 148 = .ok (.iaload, 1) := by decide +kernel
theorem dX9_within_149 : decode cX9_within 149 = .ok (.iload_n 2, 1) := by decide +kernel
theorem dX9_within_150 : decode cX9_within 150 = .ok (.imul, 1) := by decide +kernel
theorem dX9_within_151 : decode cX9_within 151 = .ok (.if_icmp .ge 34, 3) := by decide +kernel
theorem dX9_within_154 : decode cX9_within 154 = .ok (.iload 7, 2) := by decide +kernel
theorem dX9_within_156 : decode cX9_within 156 = .ok (.aload_n 0, 1) := by decide +kernel
theorem dX9_within_157 : decode cX9_within 157 = .ok (.getfield 13, 3) := by decide +kernel
theorem dX9_within_160 : decode cX9_within 160 = .ok (.iconst 1, 1) := by decide +kernel
theorem dX9_within_161 : decode cX9_within 161 = .ok (.iaload, 1) := by decide +kernel
theorem dX9_within_162 : decode cX9_within 162 = .ok (.iload_n 3, 1) := by decide +kernel
theorem dX9_within_163 : decode cX9_within 163 = .ok (.imul, 1) := by decide +kernel
theorem dX9_within_164 : decode cX9_within 164 = .ok (.if_icmp .ge 21, 3) := by decide +kernel
theorem dX9_within_167 : decode cX9_within 167 = .ok (.iload 8, 2) := by decide +kernel
theorem dX9_within_169 : decode cX9_within 169 = .ok (.aload_n 0, 1) := by decide +kernel
theorem dX9_within_170 : decode cX9_within 170 = .ok (.getfield 13, 3) := by decide +kernel
theorem dX9_within_173 : decode cX9_within 173 = .ok (.iconst 2, 1) := by decide +kernel
theorem dX9_within_174 : decode cX9_within 174 = .ok (.iaload, 1) := by decide +kernel
theorem dX9_within_175 : decode cX9_within 175 = .ok (.iload 4, 2) := by decide +kernel
theorem dX9_within_177 : decode cX9_within 177 = .ok (.imul, 1) := by decide +kernel
theorem dX9_within_178 : decode cX9_within 178 = .ok (.if_icmp .ge 7, 3) := by decide +kernel
theorem dX9_within_181 : decode cX9_within 181 = .ok (.iconst 1, 1) := by decide +kernel
theorem dX9_within_182 : decode cX9_within 182 = .ok (.goto 4, 3) := by decide +kernel
theorem dX9_within_185 : decode cX9_within 185 = .ok (.iconst 0, 1) := by decide +kernel
theorem dX9_within_186 : decode cX9_within 186 = .ok (.istore 9, 2) := by decide +kernel
theorem dX9_within_188 : decode cX9_within 188 = .ok (.aload_n 0, 1) := by decide +kernel
theorem dX9_within_189 : decode cX9_within 189 = .ok (.getfield 45, 3) := by decide +kernel
theorem dX9_within_192 : decode cX9_within 192 = .ok (.iload 5, 2) := by decide +kernel
theorem dX9_within_194 : decode cX9_within 194 = .ok (.iload 9, 2) := by decide +kernel
theorem dX9_within_196 : decode cX9_within 196 = .ok (.ifCond .ne 7, 3) := by decide +kernel
theorem dX9_within_199 : decode cX9_within 199 = .ok (.iconst 0, 1) := by decide +kernel
theorem dX9_within_200 : decode cX9_within 200 = .ok (.goto 67, 3) := by decide +kernel
theorem dX9_within_203 : decode cX9_within 203 = .ok (.aload_n 0, 1) := by decide +kernel
theorem dX9_within_204 : decode cX9_within 204 = .ok (.getfield 17, 3) := by decide +kernel
theorem dX9_within_207 : decode cX9_within 207 = .ok (.bipush 81, 2) := by decide +kernel
theorem dX9_within_209 : decode cX9_within 209 = .ok (.iload 6, 2) := by decide +kernel
theorem dX9_within_211 : decode cX9_within 211 = .ok (.iload_n 2, 1) := by decide +kernel
theorem dX9_within_212 : decode cX9_within 212 = .ok (.idiv, 1) := by decide +kernel
theorem dX9_within_213 : decode cX9_within 213 = .ok (.imul, 1) := by decide +kernel
theorem dX9_within_214 : decode cX9_within 214 = .ok (.bipush 9, 2) := by decide +kernel
theorem dX9_within_216 : decode cX9_within 216 = .ok (.iload 7, 2) := by decide +kernel
theorem dX9_within_218 : decode cX9_within 218 = .ok (.iload_n 3, 1) := by decide +kernel
theorem dX9_within_219 : decode cX9_within 219 = .ok (.idiv, 1) := by decide +kernel
theorem dX9_within_220 : decode cX9_within 220 = .ok (.imul, 1) := by decide +kernel
theorem dX9_within_221 : decode cX9_within 221 = .ok (.iadd, 1) := by decide +kernel
theorem dX9_within_222 : decode cX9_within 222 = .ok (.iload 8, 2) := by decide +kernel
theorem dX9_within_224 : decode cX9_within 224 = .ok (.iload 4, 2) := by decide +kernel
theorem dX9_within_226 : decode cX9_within 226 = .ok (.idiv, 1) := by decide +kernel
theorem dX9_within_227 : decode cX9_within 227 = .ok (.iadd, 1) := by decide +kernel
theorem dX9_within_228 : decode cX9_within 228 = .ok (.iaload, 1) := by decide +kernel
theorem dX9_within_229 : decode cX9_within 229 = .ok (.aload_n 0, 1) := by decide +kernel
theorem dX9_within_230 : decode cX9_within 230 = .ok (.getfield 33, 3) := by decide +kernel
theorem dX9_within_233 : decode cX9_within 233 = .ok (.sipush 729, 3) := by decide +kernel
theorem dX9_within_236 : decode cX9_within 236 = .ok (.iload_n 1, 1) := by decide +kernel
theorem dX9_within_237 : decode cX9_within 237 = .ok (.imul, 1) := by decide +kernel
theorem dX9_within_238 : decode cX9_within 238 = .ok (.bipush 81, 2) := by decide +kernel
theorem dX9_within_240 : decode cX9_within 240 = .ok (.iload 6, 2) := by decide +kernel
theorem dX9_within_242 : decode cX9_within 242 = .ok (.iload_n 2, 1) := by decide +kernel
theorem dX9_within_243 : decode cX9_within 243 = .ok (.irem, 1) := by decide +kernel
theorem dX9_within_244 : decode cX9_within 244 = .ok (.imul, 1) := by decide +kernel
theorem dX9_within_245 : decode cX9_within 245 = .ok (.iadd, 1) := by decide +kernel
theorem dX9_within_246 : decode cX9_within 246 = .ok (.bipush 9, 2) := by decide +kernel
theorem dX9_within_248 : decode cX9_within 248 = .ok (.iload 7, 2) := by decide +kernel
theorem dX9_within_250 : decode cX9_within 250 = .ok (.iload_n 3, 1) := by decide +kernel
theorem dX9_within_251 : decode cX9_within 251 = .ok (.irem, 1) := by decide +kernel
theorem dX9_within_252 : decode cX9_within 252 = .ok (.imul, 1) := by decide +kernel
theorem dX9_within_253 : decode cX9_within 253 = .ok (.iadd, 1) := by decide +kernel
theorem dX9_within_254 : decode cX9_within 254 = .ok (.iload 8, 2) := by decide +kernel
theorem dX9_within_256 : decode cX9_within 256 = .ok (.iload 4, 2) := by decide +kernel
theorem dX9_within_258 : decode cX9_within 258 = .ok (.irem, 1) := by decide +kernel
theorem dX9_within_259 : decode cX9_within 259 = .ok (.iadd, 1) := by decide +kernel
theorem dX9_within_260 : decode cX9_within 260 = .ok (.iaload, 1) := by decide +kernel
theorem dX9_within_261 : decode cX9_within 261 = .ok (.imul, 1) := by decide +kernel
theorem dX9_within_262 : decode cX9_within 262 = .ok (.aload_n 0, 1) := by decide +kernel
theorem dX9_within_263 : decode cX9_within 263 = .ok (.getfield 7, 3) := by decide +kernel
theorem dX9_within_266 : decode cX9_within 266 = .ok (.irem, 1) := by decide +kernel
theorem dX9_within_267 : decode cX9_within 267 = .ok (.iastore, 1) := by decide +kernel
theorem dX9_within_268 : decode cX9_within 268 = .ok (.iinc 5 1, 3) := by decide +kernel
theorem dX9_within_271 : decode cX9_within 271 = .ok (.goto (-162), 3) := by decide +kernel
theorem dX9_within_274 : decode cX9_within 274 = .ok (.iconst 0, 1) := by decide +kernel
theorem dX9_within_275 : decode cX9_within 275 = .ok (.istore 5, 2) := by decide +kernel
theorem dX9_within_277 : decode cX9_within 277 = .ok (.iconst 0, 1) := by decide +kernel
theorem dX9_within_278 : decode cX9_within 278 = .ok (.istore 6, 2) := by decide +kernel
theorem dX9_within_280 : decode cX9_within 280 = .ok (.iload 6, 2) := by decide +kernel
theorem dX9_within_282 : decode cX9_within 282 = .ok (.aload_n 0, 1) := by decide +kernel
theorem dX9_within_283 : decode cX9_within 283 = .ok (.getfield 85, 3) := by decide +kernel
theorem dX9_within_286 : decode cX9_within 286 = .ok (.if_icmp .ge 80, 3) := by decide +kernel
theorem dX9_within_289 : decode cX9_within 289 = .ok (.iconst 0, 1) := by decide +kernel
theorem dX9_within_290 : decode cX9_within 290 = .ok (.istore 7, 2) := by decide +kernel
theorem dX9_within_292 : decode cX9_within 292 = .ok (.iload 7, 2) := by decide +kernel
theorem dX9_within_294 : decode cX9_within 294 = .ok (.aload_n 0, 1) := by decide +kernel
theorem dX9_within_295 : decode cX9_within 295 = .ok (.getfield 39, 3) := by decide +kernel
theorem dX9_within_298 : decode cX9_within 298 = .ok (.iload_n 1, 1) := by decide +kernel
theorem dX9_within_299 : decode cX9_within 299 = .ok (.iaload, 1) := by decide +kernel
theorem dX9_within_300 : decode cX9_within 300 = .ok (.if_icmp .ge 60, 3) := by decide +kernel
theorem dX9_within_303 : decode cX9_within 303 = .ok (.iconst 0, 1) := by decide +kernel
theorem dX9_within_304 : decode cX9_within 304 = .ok (.istore 8, 2) := by decide +kernel
theorem dX9_within_306 : decode cX9_within 306 = .ok (.iload 8, 2) := by decide +kernel
theorem dX9_within_308 : decode cX9_within 308 = .ok (.bipush 27, 2) := by decide +kernel
theorem dX9_within_310 : decode cX9_within 310 = .ok (.if_icmp .ge 41, 3) := by decide +kernel
theorem dX9_within_313 : decode cX9_within 313 = .ok (.aload_n 0, 1) := by decide +kernel
theorem dX9_within_314 : decode cX9_within 314 = .ok (.getfield 48, 3) := by decide +kernel
theorem dX9_within_317 : decode cX9_within 317 = .ok (.bipush 27, 2) := by decide +kernel
theorem dX9_within_319 : decode cX9_within 319 = .ok (.iload 5, 2) := by decide +kernel
theorem dX9_within_321 : decode cX9_within 321 = .ok (.imul, 1) := by decide +kernel
theorem dX9_within_322 : decode cX9_within 322 = .ok (.iload 8, 2) := by decide +kernel
theorem dX9_within_324 : decode cX9_within 324 = .ok (.iadd, 1) := by decide +kernel
theorem dX9_within_325 : decode cX9_within 325 = .ok (.aload_n 0, 1) := by decide +kernel
theorem dX9_within_326 : decode cX9_within 326 = .ok (.iload_n 1, 1) := by decide +kernel
theorem dX9_within_327 : decode cX9_within 327 = .ok (.iload 6, 2) := by decide +kernel
theorem dX9_within_329 : decode cX9_within 329 = .ok (.iload 7, 2) := by decide +kernel
theorem dX9_within_331 : decode cX9_within 331 = .ok (.iload 8, 2) := by decide +kernel
theorem dX9_within_333 : decode cX9_within 333 = .ok (.bipush 9, 2) := by decide +kernel
theorem dX9_within_335 : decode cX9_within 335 = .ok (.idiv, 1) := by decide +kernel
theorem dX9_within_336 : decode cX9_within 336 = .ok (.iload 8, 2) := by decide +kernel
theorem dX9_within_338 : decode cX9_within 338 = .ok (.bipush 9, 2) := by decide +kernel
theorem dX9_within_340 : decode cX9_within 340 = .ok (.irem, 1) := by decide +kernel
theorem dX9_within_341 : decode cX9_within 341 = .ok (.invokevirtual 260, 3) := by decide +kernel
theorem dX9_within_344 : decode cX9_within 344 = .ok (.iastore, 1) := by decide +kernel
theorem dX9_within_345 : decode cX9_within 345 = .ok (.iinc 8 1, 3) := by decide +kernel
theorem dX9_within_348 : decode cX9_within 348 = .ok (.goto (-42), 3) := by decide +kernel
theorem dX9_within_351 : decode cX9_within 351 = .ok (.iinc 5 1, 3) := by decide +kernel
theorem dX9_within_354 : decode cX9_within 354 = .ok (.iinc 7 1, 3) := by decide +kernel
theorem dX9_within_357 : decode cX9_within 357 = .ok (.goto (-65), 3) := by decide +kernel
theorem dX9_within_360 : decode cX9_within 360 = .ok (.iinc 6 1, 3) := by decide +kernel
theorem dX9_within_363 : decode cX9_within 363 = .ok (.goto (-83), 3) := by decide +kernel
theorem dX9_within_366 : decode cX9_within 366 = .ok (.aload_n 0, 1) := by decide +kernel
theorem dX9_within_367 : decode cX9_within 367 = .ok (.iload 5, 2) := by decide +kernel
theorem dX9_within_369 : decode cX9_within 369 = .ok (.putfield 85, 3) := by decide +kernel
theorem dX9_within_372 : decode cX9_within 372 = .ok (.iconst 0, 1) := by decide +kernel
theorem dX9_within_373 : decode cX9_within 373 = .ok (.istore 6, 2) := by decide +kernel
theorem dX9_within_375 : decode cX9_within 375 = .ok (.iload 6, 2) := by decide +kernel
theorem dX9_within_377 : decode cX9_within 377 = .ok (.sipush 729, 3) := by decide +kernel
theorem dX9_within_380 : decode cX9_within 380 = .ok (.if_icmp .ge 23, 3) := by decide +kernel
theorem dX9_within_383 : decode cX9_within 383 = .ok (.aload_n 0, 1) := by decide +kernel
theorem dX9_within_384 : decode cX9_within 384 = .ok (.getfield 17, 3) := by decide +kernel
theorem dX9_within_387 : decode cX9_within 387 = .ok (.iload 6, 2) := by decide +kernel
theorem dX9_within_389 : decode cX9_within 389 = .ok (.aload_n 0, 1) := by decide +kernel
theorem dX9_within_390 : decode cX9_within 390 = .ok (.getfield 45, 3) := by decide +kernel
theorem dX9_within_393 : decode cX9_within 393 = .ok (.iload 6, 2) := by decide +kernel
theorem dX9_within_395 : decode cX9_within 395 = .ok (.iaload, 1) := by decide +kernel
theorem dX9_within_396 : decode cX9_within 396 = .ok (.iastore, 1) := by decide +kernel
theorem dX9_within_397 : decode cX9_within 397 = .ok (.iinc 6 1, 3) := by decide +kernel
theorem dX9_within_400 : decode cX9_within 400 = .ok (.goto (-25), 3) := by decide +kernel
theorem dX9_within_403 : decode cX9_within 403 = .ok (.iconst 0, 1) := by decide +kernel
theorem dX9_within_404 : decode cX9_within 404 = .ok (.istore 6, 2) := by decide +kernel
theorem dX9_within_406 : decode cX9_within 406 = .ok (.iload 6, 2) := by decide +kernel
theorem dX9_within_408 : decode cX9_within 408 = .ok (.bipush 27, 2) := by decide +kernel
theorem dX9_within_410 : decode cX9_within 410 = .ok (.iload 5, 2) := by decide +kernel
theorem dX9_within_412 : decode cX9_within 412 = .ok (.imul, 1) := by decide +kernel
theorem dX9_within_413 : decode cX9_within 413 = .ok (.if_icmp .ge 23, 3) := by decide +kernel
theorem dX9_within_416 : decode cX9_within 416 = .ok (.aload_n 0, 1) := by decide +kernel
theorem dX9_within_417 : decode cX9_within 417 = .ok (.getfield 20, 3) := by decide +kernel
theorem dX9_within_420 : decode cX9_within 420 = .ok (.iload 6, 2) := by decide +kernel
theorem dX9_within_422 : decode cX9_within 422 = .ok (.aload_n 0, 1) := by decide +kernel
theorem dX9_within_423 : decode cX9_within 423 = .ok (.getfield 48, 3) := by decide +kernel
theorem dX9_within_426 : decode cX9_within 426 = .ok (.iload 6, 2) := by decide +kernel
theorem dX9_within_428 : decode cX9_within 428 = .ok (.iaload, 1) := by decide +kernel
theorem dX9_within_429 : decode cX9_within 429 = .ok (.iastore, 1) := by decide +kernel
theorem dX9_within_430 : decode cX9_within 430 = .ok (.iinc 6 1, 3) := by decide +kernel
theorem dX9_within_433 : decode cX9_within 433 = .ok (.goto (-27), 3) := by decide +kernel
theorem dX9_within_436 : decode cX9_within 436 = .ok (.iconst 0, 1) := by decide +kernel
theorem dX9_within_437 : decode cX9_within 437 = .ok (.istore 6, 2) := by decide +kernel
theorem dX9_within_439 : decode cX9_within 439 = .ok (.iload 6, 2) := by decide +kernel
theorem dX9_within_441 : decode cX9_within 441 = .ok (.iconst 3, 1) := by decide +kernel
theorem dX9_within_442 : decode cX9_within 442 = .ok (.if_icmp .ge 30, 3) := by decide +kernel
theorem dX9_within_445 : decode cX9_within 445 = .ok (.aload_n 0, 1) := by decide +kernel
theorem dX9_within_446 : decode cX9_within 446 = .ok (.getfield 13, 3) := by decide +kernel
theorem dX9_within_449 : decode cX9_within 449 = .ok (.iload 6, 2) := by decide +kernel
theorem dX9_within_451 : decode cX9_within 451 = .ok (.dup2, 1) := by decide +kernel
theorem dX9_within_452 : decode cX9_within 452 = .ok (.iaload, 1) := by decide +kernel
theorem dX9_within_453 : decode cX9_within 453 = .ok (.aload_n 0, 1) := by decide +kernel
theorem dX9_within_454 : decode cX9_within 454 = .ok (.getfield 30, 3) := by decide +kernel
theorem dX9_within_457 : decode cX9_within 457 = .ok (.iconst 3, 1) := by decide +kernel
theorem dX9_within_458 : decode cX9_within 458 = .ok (.iload_n 1, 1) := by decide +kernel
theorem dX9_within_459 : decode cX9_within 459 = .ok (.imul, 1) := by decide +kernel
theorem dX9_within_460 : decode cX9_within 460 = .ok (.iload 6, 2) := by decide +kernel
theorem dX9_within_462 : decode cX9_within 462 = .ok (.iadd, 1) := by decide +kernel
theorem dX9_within_463 : decode cX9_within 463 = .ok (.iaload, 1) := by decide +kernel
theorem dX9_within_464 : decode cX9_within 464 = .ok (.imul, 1) := by decide +kernel
theorem dX9_within_465 : decode cX9_within 465 = .ok (.iastore, 1) := by decide +kernel
theorem dX9_within_466 : decode cX9_within 466 = .ok (.iinc 6 1, 3) := by decide +kernel
theorem dX9_within_469 : decode cX9_within 469 = .ok (.goto (-30), 3) := by decide +kernel
theorem dX9_within_472 : decode cX9_within 472 = .ok (.aload_n 0, 1) := by decide +kernel
theorem dX9_within_473 : decode cX9_within 473 = .ok (.invokevirtual 88, 3) := by decide +kernel
theorem dX9_within_476 : decode cX9_within 476 = .ok (.aload_n 0, 1) := by decide +kernel
theorem dX9_within_477 : decode cX9_within 477 = .ok (.iconst 0, 1) := by decide +kernel
theorem dX9_within_478 : decode cX9_within 478 = .ok (.putfield 91, 3) := by decide +kernel
theorem dX9_within_481 : decode cX9_within 481 = .ok (.aload_n 0, 1) := by decide +kernel
theorem dX9_within_482 : decode cX9_within 482 = .ok (.getfield 85, 3) := by decide +kernel
theorem dX9_within_485 : decode cX9_within 485 = .ok (.ireturn, 1) := by decide +kernel
theorem dX9_productAt_0 : decode cX9_productAt 0 = .ok (.aload_n 0, 1) := by decide +kernel
theorem dX9_productAt_1 : decode cX9_productAt 1 = .ok (.getfield 30, 3) := by decide +kernel
theorem dX9_productAt_4 : decode cX9_productAt 4 = .ok (.iconst 3, 1) := by decide +kernel
theorem dX9_productAt_5 : decode cX9_productAt 5 = .ok (.iload_n 1, 1) := by decide +kernel
theorem dX9_productAt_6 : decode cX9_productAt 6 = .ok (.imul, 1) := by decide +kernel
theorem dX9_productAt_7 : decode cX9_productAt 7 = .ok (.iload 4, 2) := by decide +kernel
theorem dX9_productAt_9 : decode cX9_productAt 9 = .ok (.iadd, 1) := by decide +kernel
theorem dX9_productAt_10 : decode cX9_productAt 10 = .ok (.iaload, 1) := by decide +kernel
theorem dX9_productAt_11 : decode cX9_productAt 11 = .ok (.istore 6, 2) := by decide +kernel
theorem dX9_productAt_13 : decode cX9_productAt 13 = .ok (.iload 5, 2) := by decide +kernel
theorem dX9_productAt_15 : decode cX9_productAt 15 = .ok (.aload_n 0, 1) := by decide +kernel
theorem dX9_productAt_16 : decode cX9_productAt 16 = .ok (.getfield 13, 3) := by decide +kernel
theorem dX9_productAt_19 : decode cX9_productAt 19 = .ok (.iload 4, 2) := by decide +kernel
theorem dX9_productAt_21 : decode cX9_productAt 21 = .ok (.iaload, 1) := by decide +kernel
theorem dX9_productAt_22 : decode cX9_productAt 22 = .ok (.iload 6, 2) := by decide +kernel
theorem dX9_productAt_24 : decode cX9_productAt 24 = .ok (.imul, 1) := by decide +kernel
theorem dX9_productAt_25 : decode cX9_productAt 25 = .ok (.if_icmp .lt 5, 3) := by decide +kernel
theorem dX9_productAt_28 : decode cX9_productAt 28 = .ok (.iconst 0, 1) := by decide +kernel
theorem dX9_productAt_29 : decode cX9_productAt 29 = .ok (.ireturn, 1) := by decide +kernel
theorem dX9_productAt_30 : decode cX9_productAt 30 = .ok (.aload_n 0, 1) := by decide +kernel
theorem dX9_productAt_31 : decode cX9_productAt 31 = .ok (.getfield 20, 3) := by decide +kernel
theorem dX9_productAt_34 : decode cX9_productAt 34 = .ok (.bipush 27, 2) := by decide +kernel
theorem dX9_productAt_36 : decode cX9_productAt 36 = .ok (.iload_n 2, 1) := by decide +kernel
theorem dX9_productAt_37 : decode cX9_productAt 37 = .ok (.imul, 1) := by decide +kernel
theorem dX9_productAt_38 : decode cX9_productAt 38 = .ok (.bipush 9, 2) := by decide +kernel
theorem dX9_productAt_40 : decode cX9_productAt 40 = .ok (.iload 4, 2) := by decide +kernel
theorem dX9_productAt_42 : decode cX9_productAt 42 = .ok (.imul, 1) := by decide +kernel
theorem dX9_productAt_43 : decode cX9_productAt 43 = .ok (.iadd, 1) := by decide +kernel
theorem dX9_productAt_44 : decode cX9_productAt 44 = .ok (.iload 5, 2) := by decide +kernel
theorem dX9_productAt_46 : decode cX9_productAt 46 = .ok (.iload 6, 2) := by decide +kernel
theorem dX9_productAt_48 : decode cX9_productAt 48 = .ok (.idiv, 1) := by decide +kernel
theorem dX9_productAt_49 : decode cX9_productAt 49 = .ok (.iadd, 1) := by decide +kernel
theorem dX9_productAt_50 : decode cX9_productAt 50 = .ok (.iaload, 1) := by decide +kernel
theorem dX9_productAt_51 : decode cX9_productAt 51 = .ok (.aload_n 0, 1) := by decide +kernel
theorem dX9_productAt_52 : decode cX9_productAt 52 = .ok (.getfield 36, 3) := by decide +kernel
theorem dX9_productAt_55 : decode cX9_productAt 55 = .ok (.sipush 1080, 3) := by decide +kernel
theorem dX9_productAt_58 : decode cX9_productAt 58 = .ok (.iload_n 1, 1) := by decide +kernel
theorem dX9_productAt_59 : decode cX9_productAt 59 = .ok (.imul, 1) := by decide +kernel
theorem dX9_productAt_60 : decode cX9_productAt 60 = .ok (.bipush 27, 2) := by decide +kernel
theorem dX9_productAt_62 : decode cX9_productAt 62 = .ok (.iload_n 3, 1) := by decide +kernel
theorem dX9_productAt_63 : decode cX9_productAt 63 = .ok (.imul, 1) := by decide +kernel
theorem dX9_productAt_64 : decode cX9_productAt 64 = .ok (.iadd, 1) := by decide +kernel
theorem dX9_productAt_65 : decode cX9_productAt 65 = .ok (.bipush 9, 2) := by decide +kernel
theorem dX9_productAt_67 : decode cX9_productAt 67 = .ok (.iload 4, 2) := by decide +kernel
theorem dX9_productAt_69 : decode cX9_productAt 69 = .ok (.imul, 1) := by decide +kernel
theorem dX9_productAt_70 : decode cX9_productAt 70 = .ok (.iadd, 1) := by decide +kernel
theorem dX9_productAt_71 : decode cX9_productAt 71 = .ok (.iload 5, 2) := by decide +kernel
theorem dX9_productAt_73 : decode cX9_productAt 73 = .ok (.iload 6, 2) := by decide +kernel
theorem dX9_productAt_75 : decode cX9_productAt 75 = .ok (.irem, 1) := by decide +kernel
theorem dX9_productAt_76 : decode cX9_productAt 76 = .ok (.iadd, 1) := by decide +kernel
theorem dX9_productAt_77 : decode cX9_productAt 77 = .ok (.iaload, 1) := by decide +kernel
theorem dX9_productAt_78 : decode cX9_productAt 78 = .ok (.imul, 1) := by decide +kernel
theorem dX9_productAt_79 : decode cX9_productAt 79 = .ok (.aload_n 0, 1) := by decide +kernel
theorem dX9_productAt_80 : decode cX9_productAt 80 = .ok (.getfield 7, 3) := by decide +kernel
theorem dX9_productAt_83 : decode cX9_productAt 83 = .ok (.irem, 1) := by decide +kernel
theorem dX9_productAt_84 : decode cX9_productAt 84 = .ok (.ireturn, 1) := by decide +kernel
end
section
/-! the abstract world: cells numbered from 0 on behind the base, of whole numbers; a cell's kind: (class or array kind, how many) -/
abbrev AV : Type := Nat × Int
abbrev LV : Type := List (Option AV)
abbrev GS : Type := List (Nat × Nat)
abbrev HP : Type := Int → Int → Int
abbrev EV : Type := va_G × ClassId × ClassId × ClassId × ClassId × Nat
abbrev MD : Type := MethodName × ByteArray × Nat × Option FieldType
abbrev BU : Type := Nat × Nat × Nat × Nat × Nat
abbrev vI (x : Int) : AV := (0, x)
abbrev vL (x : Int) : AV := (1, x)
abbrev vR (a : Int) : AV := (2, a)
abbrev inR (x : Int) : Prop := -2147483648 ≤ x ∧ x ≤ 2147483647
def eB (E : EV) : Nat := E.2.2.2.2.2
def rfo (E : EV) (a : Int) : Option Nat := if a < 0 then none else some (eB E + a.toNat)
def av (E : EV) : AV → Value
  | (0, x) => .int (Int32.ofInt x)
  | (1, x) => .long (Int64.ofInt x)
  | (_, a) => va_rf (rfo E a)
def ctg (v : AV) : Nat := if v.1 = 1 then 2 else 1
def kd : FieldType → Nat
  | .int => 0
  | .boolean => 0
  | _ => 2
def cR : Nat → String
  | 0 => RX0 | 1 => RX1 | 2 => RX2 | 3 => RX3 | 4 => RX4 | 5 => RX5 | 6 => RX6 | 7 => RX7 | 8 => RX8 | _ => RX9
def cT : Nat → u_T
  | 0 => TX0 | 1 => TX1 | 2 => TX2 | 3 => TX3 | 4 => TX4 | 5 => TX5 | 6 => TX6 | 7 => TX7 | 8 => TX8 | _ => TX9
def cty : Nat → Nat → FieldType
  | 0 => tyX0 | 1 => tyX1 | 2 => tyX2 | 3 => tyX3 | 4 => tyX4 | 5 => tyX5 | 6 => tyX6 | 7 => tyX7 | 8 => tyX8 | _ => tyX9
def cN : Nat → Nat
  | 0 => 5 | 1 => 3 | 2 => 1 | 3 => 1 | 4 => 7 | 5 => 2 | 6 => 11 | 7 => 10 | 8 => 12 | _ => 28
def fk (c k : Nat) : Nat := kd (cty c k)
def ent (E : EV) (q : Nat × Nat) (f : Int → Int) : va_E :=
  match q.1 with
  | 10 => .inl (E.2.1, q.2, .inl fun j => Int32.ofInt (f j))
  | 11 => .inl (E.2.2.1, q.2, .inl fun j => Int32.ofInt (f j))
  | 12 => .inl (E.2.2.2.1, q.2, .inr (.inr (.inr (.inr fun j => rfo E (f j)))))
  | 13 => .inl (E.2.2.2.2.1, q.2, .inr (.inr (.inr (.inr fun j => rfo E (f j)))))
  | c => .inr (c, (List.range q.2).map fun j => av E (fk c j, f j))
def wsOf (E : EV) (G : GS) (h : HP) : va_W := (List.range G.length).map fun k => (eB E + k, ent E (G.getD k (99, 0)) (h k))
def ty (G : GS) (a : Int) : Nat := if a < 0 then 99 else (G.getD a.toNat (99, 0)).1
def ln (G : GS) (a : Int) : Int := if a < 0 then 0 else ((G.getD a.toNat (99, 0)).2 : Int)
def tysE (E : EV) : List (ClassId × FieldType) := [(E.2.1, .int), (E.2.2.1, .boolean), (E.2.2.2.1, .object "TimesBench$Piece"), (E.2.2.2.2.1, .array .int)]
def Wld (E : EV) (G : GS) (h : HP) (H : Heap) : Prop := H.size = eB E + G.length ∧ va_P E.1 vwCl (wsOf E G h) H ∧ (∀ q ∈ G, q.2 < 2 ^ 31 ∧ (q.1 < 10 → q.2 = cN q.1)) ∧ ∀ k n : Nat, G[k]? = some (11, n) → ∀ j : Int, h k j = 0 ∨ h k j = 1
def KN (E : EV) (s : State) : Prop := va_K E.1 vwCl (tysE E) s
def hset (h : HP) (a j v : Int) : HP := fun a' j' => if a' = a ∧ j' = j then v else h a' j'
def frA (E : EV) : Nat → Prop := fun q => eB E ≤ q
def rtv (M : MD) (x : Int) : Option Value := match M.2.2.2 with
  | none => none
  | some .long => some (.long (Int64.ofInt x))
  | _ => some (.int (Int32.ofInt x))
def Qd (E : EV) (M : MD) (Q : Int → GS → HP → Prop) : Array Value → State → Outcome → State → Prop := fun _ st oc t =>
  (∃ (r : Int) (G : GS) (h : HP), oc = .returned (rtv M r) ∧ Q r G h ∧ Wld E G h t.heap) ∧ va_F (frA E) st t
def rmd (d mc ms : Nat) : Room := { frames := d, cells := mc, slots := ms, locals := 64 * d }
def lw_g : List Cond := lw_tbl.filter goodWord
theorem lg {w : Cond} (h : w ∈ lw_tbl) (hg : goodWord w = true) : w ∈ lw_g := List.mem_filter.mpr ⟨h, hg⟩
def wsM (M : MD) : List Cond := .code M.1 M.2.1 M.2.2.1 M.2.2.2 :: lw_g
def lh (E : EV) (ls : Array Slot) (n : Nat) (loc : LV) : Prop := ls.size = n ∧ lv_wf ls ∧ ∀ (i : Nat) (v : AV), loc[i]? = some (some v) → ls[i]? = some (.val (av E v))
def Act (M : MD) (E : EV) (p : Program) (s : State) (m : MethodId) (args : Array Value) (meth : Method) (c : Code) : Prop :=
  p.tables.exec = Jvm.exec ∧ c.code = M.2.1 ∧ meth.sig.returnType = M.2.2.2 ∧ c.maxLocals = M.2.2.1 ∧ s.vm.findClass M.1.cls = some m.cls ∧ (∀ w ∈ lw_g, w.before args s = true) ∧ KN E s ∧ meth.locks = false ∧ meth.name = M.1.name ∧ eB E ≤ s.heap.size
/-- from here on, method M over the world G h: comes to an end with Q -/
def S (l : Launch) (M : MD) (b : BU) (pc : Nat) (loc : LV) (st : List AV) (G : GS) (h : HP) (Q : Int → GS → HP → Prop) : Prop :=
  ∀ (E : EV) (p : Program) (e : Env) (s : State) (m : MethodId) (args : Array Value) (below : List Frame) (meth : Method) (c : Code), Act M E p s m args meth c →
  ∀ (H : Heap) (locs : List Loc) (ls : Array Slot), Wld E G h H → va_S (frA E) s.heap H locs → lh E ls M.2.2.1 loc →
  W p l e (rmd b.1 b.2.1 b.2.2.1) s m args below meth c H locs b.2.2.2.1 b.2.2.2.2 (MQ below (Qd E M Q) args s b.2.1 b.2.2.1 (frA E)) (F0 m pc ls (st.map (av E)))
/-- method M's contract: called with As over the world G h, at most d calls deep, mc cells of ms slots: returns with Q -/
def R (l : Launch) (M : MD) (d mc ms : Nat) (As : List AV) (G : GS) (h : HP) (Q : Int → GS → HP → Prop) : Prop :=
  ∀ E : EV, Met l M.1 (wsM M) (rmd d mc ms) (va_Pc (As.map (av E)) (fun U => Wld E G h U.heap ∧ KN E U)) (Qd E M Q) mc ms (frA E)
def lvs (loc : LV) : List (Nat × AV) := (List.range loc.length).filterMap fun i => (loc.getD i none).map fun v => (i, v)
def argl : List AV → LV
  | [] => []
  | (1, x) :: l => some (1, x) :: none :: argl l
  | v :: l => some v :: argl l
/-! ===== small rows ===== -/
theorem i32 {x : Int} (h : inR x) : (Int32.ofInt x).toInt = x := Int32.toInt_ofInt_of_le (by have := h.1; omega) (by have := h.2; omega)
theorem i32_eq {x y : Int} (hx : inR x) (hy : inR y) : Int32.ofInt x = Int32.ofInt y ↔ x = y := by
  rw [← Int32.toInt_inj, i32 hx, i32 hy]
theorem i32_lt {x y : Int} (hx : inR x) (hy : inR y) : Int32.ofInt x < Int32.ofInt y ↔ x < y := by
  rw [Int32.lt_iff_toInt_lt, i32 hx, i32 hy]
theorem i32_le {x y : Int} (hx : inR x) (hy : inR y) : Int32.ofInt x ≤ Int32.ofInt y ↔ x ≤ y := by
  rw [Int32.le_iff_toInt_le, i32 hx, i32 hy]
theorem i32_nat {x : Int} (h : 0 ≤ x) : Int32.ofInt x = nI x.toNat := by
  obtain ⟨n, rfl⟩ := Int.eq_ofNat_of_zero_le h
  rfl
theorem i32_cl {x : Int} (h : 0 ≤ x) (h2 : x ≤ 2147483647) : (Int32.ofInt x).toNatClampNeg = x.toNat := by
  rw [i32_nat h]; exact nI_clamp (by omega)
theorem ty_some {G : GS} {a : Int} {t : Nat} (h : ty G a = t) (ht : t < 99) : ∃ (k n : Nat), a = (k : Int) ∧ G[k]? = some (t, n) ∧ ln G a = (n : Int) ∧ k < G.length := by
  unfold ty at h
  by_cases ha : a < 0
  · rw [if_pos ha] at h; omega
  · rw [if_neg ha] at h
    obtain ⟨k, rfl⟩ := Int.eq_ofNat_of_zero_le (Int.not_lt.mp ha)
    have e : (Int.ofNat k).toNat = k := rfl
    rw [show ((k : Int)).toNat = k from rfl] at h
    cases hg : G[k]? with
    | none => rw [List.getD_eq_getElem?_getD, hg] at h; simp at h; omega
    | some q =>
      rw [List.getD_eq_getElem?_getD, hg] at h
      simp at h
      obtain ⟨q1, q2⟩ := q
      simp at h
      subst h
      refine ⟨k, q2, rfl, hg, ?_, (List.getElem?_eq_some_iff.mp hg).1⟩
      unfold ln
      rw [if_neg ha, show ((k : Int)).toNat = k from rfl, List.getD_eq_getElem?_getD, hg]
      rfl
theorem wsOf_get {E : EV} {G : GS} {h : HP} {k : Nat} {q : Nat × Nat} (hk : G[k]? = some q) : (wsOf E G h)[k]? = some (eB E + k, ent E q (h k)) := by
  have hl : k < G.length := (List.getElem?_eq_some_iff.mp hk).1
  unfold wsOf
  rw [List.getElem?_map, List.getElem?_range hl]
  simp [List.getD_eq_getElem?_getD, hk]
theorem wsOf_len {E : EV} {G : GS} {h : HP} : (wsOf E G h).length = G.length := by simp [wsOf]
theorem wsOf_D {E : EV} {G : GS} {h : HP} : va_D (frA E) (wsOf E G h) := by
  have key : ∀ (i : Nat) (p : Nat × va_E), (wsOf E G h)[i]? = some p → p.1 = eB E + i := by
    intro i p hp
    unfold wsOf at hp
    rw [List.getElem?_map] at hp
    cases hr : (List.range G.length)[i]? with
    | none => rw [hr] at hp; cases hp
    | some j =>
      rw [hr] at hp
      have : j = i := by
        have := List.getElem?_eq_some_iff.mp hr
        obtain ⟨h1, h2⟩ := this
        simp at h2; exact h2.symm
      subst this
      cases hp; rfl
  refine ⟨fun i j p q hi hj e => ?_, fun k q hk => ?_⟩
  · have := key i p hi; have := key j q hj; omega
  · have := key k q hk; unfold frA; omega
end
section
theorem av_cat (E : EV) (v : AV) : (av E v).category = ctg v := by
  obtain ⟨t, x⟩ := v
  match t with
  | 0 => rfl
  | 1 => rfl
  | t + 2 =>
    show (va_rf (rfo E x)).category = ctg (t + 2, x)
    unfold rfo ctg
    by_cases h : x < 0
    · rw [if_pos h, if_neg (by simp)]; rfl
    · rw [if_neg h, if_neg (by simp)]; rfl
theorem lvs_mem {loc : LV} {i : Nat} {v : AV} (h : loc[i]? = some (some v)) : (i, v) ∈ lvs loc := by
  unfold lvs
  refine List.mem_filterMap.mpr ⟨i, List.mem_range.mpr (List.getElem?_eq_some_iff.mp h).1, ?_⟩
  simp [List.getD_eq_getElem?_getD, h]
theorem mem_lvs {loc : LV} {i : Nat} {v : AV} (h : (i, v) ∈ lvs loc) : loc[i]? = some (some v) := by
  unfold lvs at h
  obtain ⟨j, hj, e⟩ := List.mem_filterMap.mp h
  have hl := List.mem_range.mp hj
  have e0 : loc[j]? = some (loc[j]'hl) := List.getElem?_eq_getElem hl
  rw [List.getD_eq_getElem?_getD, e0] at e
  cases hq : loc[j]'hl with
  | none => rw [hq] at e; simp at e
  | some w =>
    rw [hq] at e
    simp at e
    obtain ⟨rfl, rfl⟩ := e
    rw [e0, hq]
theorem lh_has {E : EV} {ls : Array Slot} {n : Nat} {loc : LV} (h : lh E ls n loc) : lv_has ls n ((lvs loc).map fun q => (q.1, av E q.2)) := by
  refine ⟨h.1, h.2.1, fun q hq => ?_⟩
  obtain ⟨⟨i, v⟩, hm, rfl⟩ := List.mem_map.mp hq
  exact h.2.2 i v (mem_lvs hm)
def nol (o : Option AV) : Bool := match o with
  | some (1, _) => false
  | _ => true
theorem nol_cat {v : AV} (h : nol (some v) = true) : ctg v = 1 := by
  obtain ⟨t, x⟩ := v
  match t with
  | 0 => rfl
  | 1 => cases h
  | t + 2 => unfold ctg; rw [if_neg (by simp)]
theorem lh_put {E : EV} {ls' : Array Slot} {n : Nat} {loc : LV} {i : Nat} {v : AV} (hno : loc.all nol = true)
    (h : lv_has ls' n ((i, av E v) :: ((lvs loc).map fun q => (q.1, av E q.2)).filter (fun q => !(q.1 == i) && !(q.1 + 1 == i && q.2.category == 2)))) : lh E ls' n (loc.set i (some v)) := by
  refine ⟨h.1, h.2.1, fun j w hj => ?_⟩
  by_cases e : j = i
  · subst e
    by_cases hl : j < loc.length
    · rw [List.getElem?_set_self hl] at hj
      cases hj
      exact h.2.2 _ List.mem_cons_self
    · rw [List.getElem?_eq_none (by simpa using hl)] at hj; cases hj
  · rw [List.getElem?_set_ne (Ne.symm e)] at hj
    refine h.2.2 (j, av E w) (List.mem_cons_of_mem _ (List.mem_filter.mpr ⟨List.mem_map.mpr ⟨(j, w), lvs_mem hj, rfl⟩, ?_⟩))
    have hw : ctg w = 1 := nol_cat (List.all_eq_true.mp hno _ (List.mem_of_getElem? hj))
    simp [e, av_cat, hw]
theorem ent_obj {E : EV} {c n : Nat} {f : Int → Int} (h : c < 10) : ent E (c, n) f = .inr (c, (List.range n).map fun j => av E (fk c j, f j)) := by
  unfold ent
  split <;> first | rfl | (rename_i e; simp at e; omega)
theorem wsOf_set {E : EV} {G : GS} {h h' : HP} {k : Nat} {q : Nat × Nat} (hk : G[k]? = some q) (ho : ∀ j : Nat, j ≠ k → h' j = h j) {e : va_E} (he : e = ent E q (h' k)) : (wsOf E G h).set k (eB E + k, e) = wsOf E G h' := by
  apply List.ext_getElem?
  intro i
  by_cases hi : i < G.length
  · have hgi : G[i]? = some (G[i]'hi) := List.getElem?_eq_getElem hi
    by_cases e1 : i = k
    · subst e1
      rw [List.getElem?_set_self (by rw [wsOf_len]; exact hi), wsOf_get hk, he]
    · rw [List.getElem?_set_ne (Ne.symm e1), wsOf_get hgi, wsOf_get hgi, ho i e1]
  · rw [List.getElem?_eq_none (by simp [wsOf_len]; omega), List.getElem?_eq_none (by simp [wsOf_len]; omega)]
theorem hset_o {h : HP} {a j v : Int} {k : Nat} (hk : (k : Int) ≠ a) : hset h a j v k = h k := by
  funext x
  simp [hset, hk]
theorem Wld_set {E : EV} {G : GS} {h : HP} {H H1 : Heap} {k : Nat} {q : Nat × Nat} {j v : Int} {e : va_E} (hW : Wld E G h H) (hs : H1.size = H.size) (hk : G[k]? = some q) (he : e = ent E q (hset h k j v k)) (hP : va_P E.1 vwCl ((wsOf E G h).set k (eB E + k, e)) H1) (hz : q.1 = 11 → v = 0 ∨ v = 1) : Wld E G (hset h k j v) H1 := by
  obtain ⟨w1, w2, w3, w4⟩ := hW
  rw [wsOf_set hk (fun i hi => hset_o (by omega)) he] at hP
  refine ⟨by rw [hs]; exact w1, hP, w3, fun i n hi x => ?_⟩
  by_cases e1 : (i : Int) = k
  · have e2 : i = k := by omega
    subst e2
    rw [hk] at hi
    cases hi
    by_cases e3 : x = j
    · subst e3; simp [hset]; exact hz rfl
    · have := w4 i n hk x
      simpa [hset, e3] using this
  · rw [hset_o e1]; exact w4 i n hi x
theorem va_S_size {A : Nat → Prop} {D : va_G} {cl : List vw_C} {H1 : Heap} {ws : va_W} (_ : va_P D cl ws H1) : True := trivial
theorem ci_0 : ∀ w ∈ u_ws RX0 TX0 5, w ∈ lw_g := by
  have h : ∀ w ∈ u_ws RX0 TX0 5, w ∈ lw_tbl ∧ goodWord w = true := by decide +kernel
  exact fun w hw => lg (h w hw).1 (h w hw).2
theorem ci_1 : ∀ w ∈ u_ws RX1 TX1 3, w ∈ lw_g := by
  have h : ∀ w ∈ u_ws RX1 TX1 3, w ∈ lw_tbl ∧ goodWord w = true := by decide +kernel
  exact fun w hw => lg (h w hw).1 (h w hw).2
theorem ci_2 : ∀ w ∈ u_ws RX2 TX2 1, w ∈ lw_g := by
  have h : ∀ w ∈ u_ws RX2 TX2 1, w ∈ lw_tbl ∧ goodWord w = true := by decide +kernel
  exact fun w hw => lg (h w hw).1 (h w hw).2
theorem ci_3 : ∀ w ∈ u_ws RX3 TX3 1, w ∈ lw_g := by
  have h : ∀ w ∈ u_ws RX3 TX3 1, w ∈ lw_tbl ∧ goodWord w = true := by decide +kernel
  exact fun w hw => lg (h w hw).1 (h w hw).2
theorem ci_4 : ∀ w ∈ u_ws RX4 TX4 7, w ∈ lw_g := by
  have h : ∀ w ∈ u_ws RX4 TX4 7, w ∈ lw_tbl ∧ goodWord w = true := by decide +kernel
  exact fun w hw => lg (h w hw).1 (h w hw).2
theorem ci_5 : ∀ w ∈ u_ws RX5 TX5 2, w ∈ lw_g := by
  have h : ∀ w ∈ u_ws RX5 TX5 2, w ∈ lw_tbl ∧ goodWord w = true := by decide +kernel
  exact fun w hw => lg (h w hw).1 (h w hw).2
theorem ci_6 : ∀ w ∈ u_ws RX6 TX6 11, w ∈ lw_g := by
  have h : ∀ w ∈ u_ws RX6 TX6 11, w ∈ lw_tbl ∧ goodWord w = true := by decide +kernel
  exact fun w hw => lg (h w hw).1 (h w hw).2
theorem ci_7 : ∀ w ∈ u_ws RX7 TX7 10, w ∈ lw_g := by
  have h : ∀ w ∈ u_ws RX7 TX7 10, w ∈ lw_tbl ∧ goodWord w = true := by decide +kernel
  exact fun w hw => lg (h w hw).1 (h w hw).2
theorem ci_8 : ∀ w ∈ u_ws RX8 TX8 12, w ∈ lw_g := by
  have h : ∀ w ∈ u_ws RX8 TX8 12, w ∈ lw_tbl ∧ goodWord w = true := by decide +kernel
  exact fun w hw => lg (h w hw).1 (h w hw).2
theorem ci_9 : ∀ w ∈ u_ws RX9 TX9 28, w ∈ lw_g := by
  have h : ∀ w ∈ u_ws RX9 TX9 28, w ∈ lw_tbl ∧ goodWord w = true := by decide +kernel
  exact fun w hw => lg (h w hw).1 (h w hw).2
theorem cls_ok {c : Nat} (h : c < 10) : vwCl[c]? = some (cR c, cT c, cN c) ∧ (∀ w ∈ u_ws (cR c) (cT c) (cN c), w ∈ lw_g) ∧ (∀ k, k < cN c → parseFieldDescriptor (cT c k).2.2.1 = some (cty c k)) ∧ (∀ a, a < cN c → ∀ b, b < cN c → a ≠ b → (cT c a).2.1 ≠ (cT c b).2.1) := by
  match c, h with
  | 0, _ => exact ⟨rfl, ci_0, tyX0_ok, nmX0⟩
  | 1, _ => exact ⟨rfl, ci_1, tyX1_ok, nmX1⟩
  | 2, _ => exact ⟨rfl, ci_2, tyX2_ok, nmX2⟩
  | 3, _ => exact ⟨rfl, ci_3, tyX3_ok, nmX3⟩
  | 4, _ => exact ⟨rfl, ci_4, tyX4_ok, nmX4⟩
  | 5, _ => exact ⟨rfl, ci_5, tyX5_ok, nmX5⟩
  | 6, _ => exact ⟨rfl, ci_6, tyX6_ok, nmX6⟩
  | 7, _ => exact ⟨rfl, ci_7, tyX7_ok, nmX7⟩
  | 8, _ => exact ⟨rfl, ci_8, tyX8_ok, nmX8⟩
  | 9, _ => exact ⟨rfl, ci_9, tyX9_ok, nmX9⟩
  | c + 10, h => exact absurd h (by omega)
end
section
section Ins
variable {l : Launch} {M : MD} {b : BU} {pc : Nat} {loc : LV} {st : List AV} {G : GS} {h : HP} {Q : Int → GS → HP → Prop}
theorem S_weak {loc' : LV} (hw : ∀ (i : Nat) (v : AV), loc'[i]? = some (some v) → loc[i]? = some (some v)) (k : S l M b pc loc' st G h Q) : S l M b pc loc st G h Q := by
  intro E p e s m args below meth c A H locs ls hW hS hl
  exact k E p e s m args below meth c A H locs ls hW hS ⟨hl.1, hl.2.1, fun i v hv => hl.2.2 i v (hw i v hv)⟩
def lsub : LV → LV → Prop
  | [], _ => True
  | none :: a, _ :: b => lsub a b
  | some v :: a, w :: b => w = some v ∧ lsub a b
  | _ :: _, [] => False
theorem lsub_get : ∀ {a b : LV}, lsub a b → ∀ (i : Nat) (v : AV), a[i]? = some (some v) → b[i]? = some (some v)
  | [], _, _, i, v, h => by simp at h
  | none :: a, w :: b, hs, i, v, h => by
    match i with
    | 0 => simp at h
    | i + 1 => simpa using lsub_get (a := a) (b := b) hs i v (by simpa using h)
  | some u :: a, w :: b, hs, i, v, h => by
    match i with
    | 0 => simp at h; subst h; simp [hs.1]
    | i + 1 => simpa using lsub_get (a := a) (b := b) hs.2 i v (by simpa using h)
  | none :: _, [], hs, _, _, _ => hs.elim
  | some _ :: _, [], hs, _, _, _ => hs.elim
theorem S_cut {loc' : LV} (hw : lsub loc' loc) (k : S l M b pc loc' st G h Q) : S l M b pc loc st G h Q := S_weak (lsub_get hw) k
theorem s_iconst {n : Int} (hd : decode M.2.1 pc = .ok (.iconst n, 1)) (k : S l M b (pc + 1) loc (vI n :: st) G h Q) : S l M b pc loc st G h Q := by
  intro E p e s m args below meth c A H locs ls hW hS hl
  exact lv_iconst A.1 A.2.1 hd rfl (k E p e s m args below meth c A H locs ls hW hS hl)
theorem s_bipush {n : Int} (hd : decode M.2.1 pc = .ok (.bipush n, 2)) (hn : (Int8.ofInt n).toInt32 = Int32.ofInt n) (k : S l M b (pc + 2) loc (vI n :: st) G h Q) : S l M b pc loc st G h Q := by
  intro E p e s m args below meth c A H locs ls hW hS hl
  exact lv_bipush A.1 A.2.1 hd hn (k E p e s m args below meth c A H locs ls hW hS hl)
theorem s_sipush {n : Int} (hd : decode M.2.1 pc = .ok (.sipush n, 3)) (hn : (Int16.ofInt n).toInt32 = Int32.ofInt n) (k : S l M b (pc + 3) loc (vI n :: st) G h Q) : S l M b pc loc st G h Q := by
  intro E p e s m args below meth c A H locs ls hW hS hl
  exact lv_sipush A.1 A.2.1 hd hn (k E p e s m args below meth c A H locs ls hW hS hl)
theorem s_lconst {n : Fin 2} {v : Int} (hd : decode M.2.1 pc = .ok (.lconst n, 1)) (hv : Int64.ofNat (n : Nat) = Int64.ofInt v) (k : S l M b (pc + 1) loc (vL v :: st) G h Q) : S l M b pc loc st G h Q := by
  intro E p e s m args below meth c A H locs ls hW hS hl
  exact lv_lconst A.1 A.2.1 hd hv (k E p e s m args below meth c A H locs ls hW hS hl)
theorem s_ldc {idx : Nat} {v : Int} (hd : decode M.2.1 pc = .ok (.ldc idx, 2)) (hc : Cond.constant M.1.cls idx (Int32.ofInt v) ∈ lw_tbl) (k : S l M b (pc + 2) loc (vI v :: st) G h Q) : S l M b pc loc st G h Q := by
  intro E p e s m args below meth c A H locs ls hW hS hl
  exact lv_ldc A.1 A.2.1 A.2.2.2.2.1 (A.2.2.2.2.2.1 _ (lg hc rfl)) hd (k E p e s m args below meth c A H locs ls hW hS hl)
theorem s_ldc2 {idx : Nat} {v : Int} (hd : decode M.2.1 pc = .ok (.ldc2_w idx, 3)) (hc : Cond.constantLong M.1.cls idx (Int64.ofInt v) ∈ lw_tbl) (k : S l M b (pc + 3) loc (vL v :: st) G h Q) : S l M b pc loc st G h Q := by
  intro E p e s m args below meth c A H locs ls hW hS hl
  exact lv_ldc2 A.1 A.2.1 A.2.2.2.2.1 (A.2.2.2.2.2.1 _ (lg hc rfl)) hd (k E p e s m args below meth c A H locs ls hW hS hl)
theorem s_iload_n {n : Fin 4} {i : Nat} {x : Int} (hd : decode M.2.1 pc = .ok (.iload_n n, 1)) (hi : (n : Nat) = i) (hv : loc[i]? = some (some (vI x))) (k : S l M b (pc + 1) loc (vI x :: st) G h Q) : S l M b pc loc st G h Q := by
  intro E p e s m args below meth c A H locs ls hW hS hl
  exact lv_iload_n A.1 A.2.1 hd hi (hl.2.2 i _ hv) (k E p e s m args below meth c A H locs ls hW hS hl)
theorem s_iload {i : Nat} {x : Int} (hd : decode M.2.1 pc = .ok (.iload i, 2)) (hv : loc[i]? = some (some (vI x))) (k : S l M b (pc + 2) loc (vI x :: st) G h Q) : S l M b pc loc st G h Q := by
  intro E p e s m args below meth c A H locs ls hW hS hl
  exact lv_iload A.1 A.2.1 hd (hl.2.2 i _ hv) (k E p e s m args below meth c A H locs ls hW hS hl)
theorem s_lload_n {n : Fin 4} {i : Nat} {x : Int} (hd : decode M.2.1 pc = .ok (.lload_n n, 1)) (hi : (n : Nat) = i) (hv : loc[i]? = some (some (vL x))) (k : S l M b (pc + 1) loc (vL x :: st) G h Q) : S l M b pc loc st G h Q := by
  intro E p e s m args below meth c A H locs ls hW hS hl
  exact lv_lload_n A.1 A.2.1 hd hi (hl.2.2 i _ hv) (k E p e s m args below meth c A H locs ls hW hS hl)
theorem s_lload {i : Nat} {x : Int} (hd : decode M.2.1 pc = .ok (.lload i, 2)) (hv : loc[i]? = some (some (vL x))) (k : S l M b (pc + 2) loc (vL x :: st) G h Q) : S l M b pc loc st G h Q := by
  intro E p e s m args below meth c A H locs ls hW hS hl
  exact lv_lload A.1 A.2.1 hd (hl.2.2 i _ hv) (k E p e s m args below meth c A H locs ls hW hS hl)
theorem av_ref {E : EV} {a : Int} (h : 0 ≤ a) : av E (vR a) = .ref (eB E + a.toNat) := by
  show va_rf (rfo E a) = _
  unfold rfo
  rw [if_neg (by omega)]; rfl
theorem av_null {E : EV} {a : Int} (h : a < 0) : av E (vR a) = .null := by
  show va_rf (rfo E a) = _
  unfold rfo
  rw [if_pos h]; rfl
theorem s_aload_n {n : Fin 4} {i : Nat} {x : Int} (hd : decode M.2.1 pc = .ok (.aload_n n, 1)) (hi : (n : Nat) = i) (hv : loc[i]? = some (some (vR x))) (k : S l M b (pc + 1) loc (vR x :: st) G h Q) : S l M b pc loc st G h Q := by
  intro E p e s m args below meth c A H locs ls hW hS hl
  have h1 := hl.2.2 i _ hv
  have h2 := k E p e s m args below meth c A H locs ls hW hS hl
  rw [List.map_cons] at h2
  by_cases hx : x < 0
  · rw [av_null hx] at h1 h2
    exact lv_aload_nN A.1 A.2.1 hd hi h1 h2
  · rw [av_ref (Int.not_lt.mp hx)] at h1 h2
    exact lv_aload_n A.1 A.2.1 hd hi h1 h2
theorem s_aload {i : Nat} {x : Int} (hx : 0 ≤ x) (hd : decode M.2.1 pc = .ok (.aload i, 2)) (hv : loc[i]? = some (some (vR x))) (k : S l M b (pc + 2) loc (vR x :: st) G h Q) : S l M b pc loc st G h Q := by
  intro E p e s m args below meth c A H locs ls hW hS hl
  have h1 := hl.2.2 i _ hv
  have h2 := k E p e s m args below meth c A H locs ls hW hS hl
  rw [List.map_cons] at h2
  rw [av_ref hx] at h1 h2
  exact lv_aload A.1 A.2.1 hd h1 h2
theorem s_istore_n {n : Fin 4} {i : Nat} {x : Int} (hd : decode M.2.1 pc = .ok (.istore_n n, 1)) (hi : (n : Nat) = i) (hn : i < M.2.2.1) (hno : loc.all nol = true) (k : S l M b (pc + 1) (loc.set i (some (vI x))) st G h Q) : S l M b pc loc (vI x :: st) G h Q := by
  intro E p e s m args below meth c A H locs ls hW hS hl
  exact lv_istore_n A.1 A.2.1 hd hi (lh_has hl) hn rfl (fun ls' hl' => k E p e s m args below meth c A H locs ls' hW hS (lh_put (v := vI x) hno hl'))
theorem s_istore {i : Nat} {x : Int} (hd : decode M.2.1 pc = .ok (.istore i, 2)) (hn : i < M.2.2.1) (hno : loc.all nol = true) (k : S l M b (pc + 2) (loc.set i (some (vI x))) st G h Q) : S l M b pc loc (vI x :: st) G h Q := by
  intro E p e s m args below meth c A H locs ls hW hS hl
  exact lv_istore A.1 A.2.1 hd (lh_has hl) hn rfl (fun ls' hl' => k E p e s m args below meth c A H locs ls' hW hS (lh_put (v := vI x) hno hl'))
theorem s_astore_n {n : Fin 4} {i : Nat} {x : Int} (hx : 0 ≤ x) (hd : decode M.2.1 pc = .ok (.astore_n n, 1)) (hi : (n : Nat) = i) (hn : i < M.2.2.1) (hno : loc.all nol = true) (k : S l M b (pc + 1) (loc.set i (some (vR x))) st G h Q) : S l M b pc loc (vR x :: st) G h Q := by
  intro E p e s m args below meth c A H locs ls hW hS hl
  rw [List.map_cons, av_ref hx]
  refine lv_astore_n A.1 A.2.1 hd hi (lh_has hl) hn rfl (fun ls' hl' => k E p e s m args below meth c A H locs ls' hW hS (lh_put (v := vR x) hno ?_))
  rw [av_ref hx]
  exact hl'
theorem idx_of {α : Type} {a : α} : ∀ {L : List α}, a ∈ L → ∃ k : Nat, L[k]? = some a := fun h => by
  obtain ⟨n, hn, e⟩ := List.mem_iff_getElem.mp h
  exact ⟨n, by rw [List.getElem?_eq_getElem hn, e]⟩
theorem s_iinc {i : Nat} {n x : Int} (hd : decode M.2.1 pc = .ok (.iinc i n, 3)) (hv : loc[i]? = some (some (vI x))) (hn : i < M.2.2.1) (hno : loc.all nol = true) (k : S l M b (pc + 3) (loc.set i (some (vI (x + n)))) st G h Q) : S l M b pc loc st G h Q := by
  intro E p e s m args below meth c A H locs ls hW hS hl
  obtain ⟨j, hj⟩ := idx_of (List.mem_map.mpr ⟨(i, vI x), lvs_mem hv, rfl⟩ : (i, av E (vI x)) ∈ (lvs loc).map fun q => (q.1, av E q.2))
  exact lv_iinc (v := Int32.ofInt (x + n)) A.1 A.2.1 hd (lh_has hl) hj (Int32.ofInt_add x n).symm hn rfl (fun ls' hl' => k E p e s m args below meth c A H locs ls' hW hS (lh_put (v := vI (x + n)) hno hl'))
theorem s_iadd {x y : Int} (hd : decode M.2.1 pc = .ok (.iadd, 1)) (k : S l M b (pc + 1) loc (vI (x + y) :: st) G h Q) : S l M b pc loc (vI y :: vI x :: st) G h Q := by
  intro E p e s m args below meth c A H locs ls hW hS hl
  refine lv_iadd A.1 A.2.1 hd ?_
  rw [← Int32.ofInt_add]
  exact k E p e s m args below meth c A H locs ls hW hS hl
theorem s_isub {x y : Int} (hd : decode M.2.1 pc = .ok (.isub, 1)) (k : S l M b (pc + 1) loc (vI (x - y) :: st) G h Q) : S l M b pc loc (vI y :: vI x :: st) G h Q := by
  intro E p e s m args below meth c A H locs ls hW hS hl
  refine lv_isub A.1 A.2.1 hd ?_
  rw [← Int32.ofInt_sub]
  exact k E p e s m args below meth c A H locs ls hW hS hl
theorem s_imul {x y : Int} (hd : decode M.2.1 pc = .ok (.imul, 1)) (k : S l M b (pc + 1) loc (vI (x * y) :: st) G h Q) : S l M b pc loc (vI y :: vI x :: st) G h Q := by
  intro E p e s m args below meth c A H locs ls hW hS hl
  refine lv_imul A.1 A.2.1 hd ?_
  rw [← Int32.ofInt_mul]
  exact k E p e s m args below meth c A H locs ls hW hS hl
abbrev dvR (x y : Int) : Prop := (0 ≤ x ∧ x ≤ 2147483647) ∧ 0 < y ∧ y ≤ 2147483647
theorem dv_ne {y : Int} (h : 0 < y ∧ y ≤ 2147483647) : ¬ Int32.ofInt y = 0 := by
  rw [show (0 : Int32) = Int32.ofInt 0 from rfl, i32_eq ⟨by omega, h.2⟩ (by decide)]
  omega
theorem s_idiv {x y : Int} (hd : decode M.2.1 pc = .ok (.idiv, 1)) (hr : dvR x y) (k : S l M b (pc + 1) loc (vI (x / y) :: st) G h Q) : S l M b pc loc (vI y :: vI x :: st) G h Q := by
  intro E p e s m args below meth c A H locs ls hW hS hl
  refine lv_idiv A.1 A.2.1 hd (dv_ne hr.2) ?_
  have e1 : Int32.ofInt x / Int32.ofInt y = Int32.ofInt (x / y) := by
    obtain ⟨a, rfl⟩ := Int.eq_ofNat_of_zero_le hr.1.1
    obtain ⟨d, rfl⟩ := Int.eq_ofNat_of_zero_le (Int.le_of_lt hr.2.1)
    exact pk_div (by have := hr.1.2; omega) (by have := hr.2.1; omega) (by have := hr.2.2; omega)
  rw [e1]
  exact k E p e s m args below meth c A H locs ls hW hS hl
theorem s_irem {x y : Int} (hd : decode M.2.1 pc = .ok (.irem, 1)) (hr : dvR x y) (k : S l M b (pc + 1) loc (vI (x % y) :: st) G h Q) : S l M b pc loc (vI y :: vI x :: st) G h Q := by
  intro E p e s m args below meth c A H locs ls hW hS hl
  refine lv_irem A.1 A.2.1 hd (dv_ne hr.2) ?_
  have e1 : Int32.ofInt x - Int32.ofInt x / Int32.ofInt y * Int32.ofInt y = Int32.ofInt (x % y) := by
    obtain ⟨a, rfl⟩ := Int.eq_ofNat_of_zero_le hr.1.1
    obtain ⟨d, rfl⟩ := Int.eq_ofNat_of_zero_le (Int.le_of_lt hr.2.1)
    exact pk_rem (by have := hr.1.2; omega) (by have := hr.2.1; omega) (by have := hr.2.2; omega)
  rw [e1]
  exact k E p e s m args below meth c A H locs ls hW hS hl
theorem s_dup {v : AV} (hd : decode M.2.1 pc = .ok (.dup, 1)) (hv : ctg v = 1) (k : S l M b (pc + 1) loc (v :: v :: st) G h Q) : S l M b pc loc (v :: st) G h Q := by
  intro E p e s m args below meth c A H locs ls hW hS hl
  exact lv_dup A.1 A.2.1 hd (by rw [av_cat]; exact hv) (k E p e s m args below meth c A H locs ls hW hS hl)
theorem s_pop {v : AV} (hd : decode M.2.1 pc = .ok (.pop, 1)) (hv : ctg v = 1) (k : S l M b (pc + 1) loc st G h Q) : S l M b pc loc (v :: st) G h Q := by
  intro E p e s m args below meth c A H locs ls hW hS hl
  exact lv_pop A.1 A.2.1 hd (by rw [av_cat]; exact hv) (k E p e s m args below meth c A H locs ls hW hS hl)
theorem s_dup2 {v w : AV} (hd : decode M.2.1 pc = .ok (.dup2, 1)) (hv : ctg v = 1) (hw : ctg w = 1) (k : S l M b (pc + 1) loc (v :: w :: v :: w :: st) G h Q) : S l M b pc loc (v :: w :: st) G h Q := by
  intro E p e s m args below meth c A H locs ls hW hS hl
  exact lv_dup2_11 A.1 A.2.1 hd (by rw [av_cat]; exact hv) (by rw [av_cat]; exact hw) (k E p e s m args below meth c A H locs ls hW hS hl)
theorem s_goto {off : Int} {tgt : Nat} (hd : decode M.2.1 pc = .ok (.goto off, 3)) (ht : (pc : Int) + off = (tgt : Int)) (k : S l M b tgt loc st G h Q) : S l M b pc loc st G h Q := by
  intro E p e s m args below meth c A H locs ls hW hS hl
  exact lv_goto A.1 A.2.1 hd ht (k E p e s m args below meth c A H locs ls hW hS hl)
end Ins
section Bra
variable {l : Launch} {M : MD} {b : BU} {pc : Nat} {loc : LV} {st : List AV} {G : GS} {h : HP} {Q : Int → GS → HP → Prop}
theorem s_icmp_eq {x y off : Int} {tgt : Nat} (hd : decode M.2.1 pc = .ok (.if_icmp .eq off, 3)) (ht : (pc : Int) + off = (tgt : Int)) (hx : inR x) (hy : inR y) (kt : x = y → S l M b tgt loc st G h Q) (kf : x ≠ y → S l M b (pc + 3) loc st G h Q) : S l M b pc loc (vI y :: vI x :: st) G h Q := by
  intro E p e s m args below meth c A H locs ls hW hS hl
  exact lv_icmp_eq A.1 A.2.1 hd ht (fun c => kt ((i32_eq hx hy).mp c) E p e s m args below meth _ A H locs ls hW hS hl) (fun c => kf (fun q => c ((i32_eq hx hy).mpr q)) E p e s m args below meth _ A H locs ls hW hS hl)
theorem s_if_eq {x off : Int} {tgt : Nat} (hd : decode M.2.1 pc = .ok (.ifCond .eq off, 3)) (ht : (pc : Int) + off = (tgt : Int)) (hx : inR x) (kt : x = 0 → S l M b tgt loc st G h Q) (kf : x ≠ 0 → S l M b (pc + 3) loc st G h Q) : S l M b pc loc (vI x :: st) G h Q := by
  intro E p e s m args below meth c A H locs ls hW hS hl
  have hy : inR 0 := by decide
  exact lv_if_eq A.1 A.2.1 hd ht (fun c => kt ((i32_eq hx hy).mp c) E p e s m args below meth _ A H locs ls hW hS hl) (fun c => kf (fun q => c ((i32_eq hx hy).mpr q)) E p e s m args below meth _ A H locs ls hW hS hl)
theorem s_icmp_ne {x y off : Int} {tgt : Nat} (hd : decode M.2.1 pc = .ok (.if_icmp .ne off, 3)) (ht : (pc : Int) + off = (tgt : Int)) (hx : inR x) (hy : inR y) (kt : x ≠ y → S l M b tgt loc st G h Q) (kf : x = y → S l M b (pc + 3) loc st G h Q) : S l M b pc loc (vI y :: vI x :: st) G h Q := by
  intro E p e s m args below meth c A H locs ls hW hS hl
  exact lv_icmp_ne A.1 A.2.1 hd ht (fun c => kt (fun q => c ((i32_eq hx hy).mpr q)) E p e s m args below meth _ A H locs ls hW hS hl) (fun c => kf ((i32_eq hx hy).mp c) E p e s m args below meth _ A H locs ls hW hS hl)
theorem s_if_ne {x off : Int} {tgt : Nat} (hd : decode M.2.1 pc = .ok (.ifCond .ne off, 3)) (ht : (pc : Int) + off = (tgt : Int)) (hx : inR x) (kt : x ≠ 0 → S l M b tgt loc st G h Q) (kf : x = 0 → S l M b (pc + 3) loc st G h Q) : S l M b pc loc (vI x :: st) G h Q := by
  intro E p e s m args below meth c A H locs ls hW hS hl
  have hy : inR 0 := by decide
  exact lv_if_ne A.1 A.2.1 hd ht (fun c => kt (fun q => c ((i32_eq hx hy).mpr q)) E p e s m args below meth _ A H locs ls hW hS hl) (fun c => kf ((i32_eq hx hy).mp c) E p e s m args below meth _ A H locs ls hW hS hl)
theorem s_icmp_lt {x y off : Int} {tgt : Nat} (hd : decode M.2.1 pc = .ok (.if_icmp .lt off, 3)) (ht : (pc : Int) + off = (tgt : Int)) (hx : inR x) (hy : inR y) (kt : x < y → S l M b tgt loc st G h Q) (kf : y ≤ x → S l M b (pc + 3) loc st G h Q) : S l M b pc loc (vI y :: vI x :: st) G h Q := by
  intro E p e s m args below meth c A H locs ls hW hS hl
  exact lv_icmp_lt A.1 A.2.1 hd ht (fun c => kt ((i32_lt hx hy).mp c) E p e s m args below meth _ A H locs ls hW hS hl) (fun c => kf (Int.not_lt.mp (fun q => c ((i32_lt hx hy).mpr q))) E p e s m args below meth _ A H locs ls hW hS hl)
theorem s_if_lt {x off : Int} {tgt : Nat} (hd : decode M.2.1 pc = .ok (.ifCond .lt off, 3)) (ht : (pc : Int) + off = (tgt : Int)) (hx : inR x) (kt : x < 0 → S l M b tgt loc st G h Q) (kf : 0 ≤ x → S l M b (pc + 3) loc st G h Q) : S l M b pc loc (vI x :: st) G h Q := by
  intro E p e s m args below meth c A H locs ls hW hS hl
  have hy : inR 0 := by decide
  exact lv_if_lt A.1 A.2.1 hd ht (fun c => kt ((i32_lt hx hy).mp c) E p e s m args below meth _ A H locs ls hW hS hl) (fun c => kf (Int.not_lt.mp (fun q => c ((i32_lt hx hy).mpr q))) E p e s m args below meth _ A H locs ls hW hS hl)
theorem s_icmp_ge {x y off : Int} {tgt : Nat} (hd : decode M.2.1 pc = .ok (.if_icmp .ge off, 3)) (ht : (pc : Int) + off = (tgt : Int)) (hx : inR x) (hy : inR y) (kt : y ≤ x → S l M b tgt loc st G h Q) (kf : x < y → S l M b (pc + 3) loc st G h Q) : S l M b pc loc (vI y :: vI x :: st) G h Q := by
  intro E p e s m args below meth c A H locs ls hW hS hl
  exact lv_icmp_ge A.1 A.2.1 hd ht (fun c => kt ((i32_le hy hx).mp c) E p e s m args below meth _ A H locs ls hW hS hl) (fun c => kf (Int.not_le.mp (fun q => c ((i32_le hy hx).mpr q))) E p e s m args below meth _ A H locs ls hW hS hl)
theorem s_if_ge {x off : Int} {tgt : Nat} (hd : decode M.2.1 pc = .ok (.ifCond .ge off, 3)) (ht : (pc : Int) + off = (tgt : Int)) (hx : inR x) (kt : 0 ≤ x → S l M b tgt loc st G h Q) (kf : x < 0 → S l M b (pc + 3) loc st G h Q) : S l M b pc loc (vI x :: st) G h Q := by
  intro E p e s m args below meth c A H locs ls hW hS hl
  have hy : inR 0 := by decide
  exact lv_if_ge A.1 A.2.1 hd ht (fun c => kt ((i32_le hy hx).mp c) E p e s m args below meth _ A H locs ls hW hS hl) (fun c => kf (Int.not_le.mp (fun q => c ((i32_le hy hx).mpr q))) E p e s m args below meth _ A H locs ls hW hS hl)
theorem s_icmp_gt {x y off : Int} {tgt : Nat} (hd : decode M.2.1 pc = .ok (.if_icmp .gt off, 3)) (ht : (pc : Int) + off = (tgt : Int)) (hx : inR x) (hy : inR y) (kt : y < x → S l M b tgt loc st G h Q) (kf : x ≤ y → S l M b (pc + 3) loc st G h Q) : S l M b pc loc (vI y :: vI x :: st) G h Q := by
  intro E p e s m args below meth c A H locs ls hW hS hl
  exact lv_icmp_gt A.1 A.2.1 hd ht (fun c => kt ((i32_lt hy hx).mp c) E p e s m args below meth _ A H locs ls hW hS hl) (fun c => kf (Int.not_lt.mp (fun q => c ((i32_lt hy hx).mpr q))) E p e s m args below meth _ A H locs ls hW hS hl)
theorem s_if_gt {x off : Int} {tgt : Nat} (hd : decode M.2.1 pc = .ok (.ifCond .gt off, 3)) (ht : (pc : Int) + off = (tgt : Int)) (hx : inR x) (kt : 0 < x → S l M b tgt loc st G h Q) (kf : x ≤ 0 → S l M b (pc + 3) loc st G h Q) : S l M b pc loc (vI x :: st) G h Q := by
  intro E p e s m args below meth c A H locs ls hW hS hl
  have hy : inR 0 := by decide
  exact lv_if_gt A.1 A.2.1 hd ht (fun c => kt ((i32_lt hy hx).mp c) E p e s m args below meth _ A H locs ls hW hS hl) (fun c => kf (Int.not_lt.mp (fun q => c ((i32_lt hy hx).mpr q))) E p e s m args below meth _ A H locs ls hW hS hl)
theorem s_icmp_le {x y off : Int} {tgt : Nat} (hd : decode M.2.1 pc = .ok (.if_icmp .le off, 3)) (ht : (pc : Int) + off = (tgt : Int)) (hx : inR x) (hy : inR y) (kt : x ≤ y → S l M b tgt loc st G h Q) (kf : y < x → S l M b (pc + 3) loc st G h Q) : S l M b pc loc (vI y :: vI x :: st) G h Q := by
  intro E p e s m args below meth c A H locs ls hW hS hl
  exact lv_icmp_le A.1 A.2.1 hd ht (fun c => kt ((i32_le hx hy).mp c) E p e s m args below meth _ A H locs ls hW hS hl) (fun c => kf (Int.not_le.mp (fun q => c ((i32_le hx hy).mpr q))) E p e s m args below meth _ A H locs ls hW hS hl)
theorem s_if_le {x off : Int} {tgt : Nat} (hd : decode M.2.1 pc = .ok (.ifCond .le off, 3)) (ht : (pc : Int) + off = (tgt : Int)) (hx : inR x) (kt : x ≤ 0 → S l M b tgt loc st G h Q) (kf : 0 < x → S l M b (pc + 3) loc st G h Q) : S l M b pc loc (vI x :: st) G h Q := by
  intro E p e s m args below meth c A H locs ls hW hS hl
  have hy : inR 0 := by decide
  exact lv_if_le A.1 A.2.1 hd ht (fun c => kt ((i32_le hx hy).mp c) E p e s m args below meth _ A H locs ls hW hS hl) (fun c => kf (Int.not_le.mp (fun q => c ((i32_le hx hy).mpr q))) E p e s m args below meth _ A H locs ls hW hS hl)
end Bra
end
section
section Mem
variable {l : Launch} {M : MD} {b : BU} {pc : Nat} {loc : LV} {st : List AV} {G : GS} {h : HP} {Q : Int → GS → HP → Prop}
theorem hset_map {E : EV} {h : HP} {i c n k : Nat} {x : Int} (hk : k < n) : ((List.range n).map fun j => av E (fk c j, h i j)).set k (av E (fk c k, x)) = (List.range n).map fun j => av E (fk c j, hset h i k x i j) := by
  apply List.ext_getElem?
  intro j
  by_cases hj : j < n
  · by_cases e : j = k
    · subst e
      rw [List.getElem?_set_self (by simpa using hj), List.getElem?_map, List.getElem?_range hj]
      simp [hset]
    · rw [List.getElem?_set_ne (Ne.symm e), List.getElem?_map, List.getElem?_map, List.getElem?_range hj]
      have e2 : ¬ (j : Int) = (k : Int) := by omega
      simp [hset, e2]
  · rw [List.getElem?_eq_none (by simpa using hj), List.getElem?_eq_none (by simpa using hj)]
theorem s_getf {c k idx t : Nat} {a j : Int} (hd : decode M.2.1 pc = .ok (.getfield idx, 3)) (hlk : Cond.fieldLink M.1.cls idx (cT c k).1 (cT c k).2.1 (cT c k).2.2.1 ∈ lw_tbl) (hc : c < 10) (hk : k < cN c) (ht : fk c k = t) (hj : (k : Int) = j) (hty : ty G a = c) (kk : S l M b (pc + 3) loc ((t, h a j) :: st) G h Q) : S l M b pc loc (vR a :: st) G h Q := by
  intro E p e s m args below meth cd A H locs ls hW hS hl
  subst hj; subst ht
  obtain ⟨i, n, rfl, hi, -, hil⟩ := ty_some hty (by omega)
  obtain ⟨c1, c2, c3, c4⟩ := cls_ok hc
  have hn : n = cN c := (hW.2.2.1 _ (List.mem_of_getElem? hi)).2 hc
  subst hn
  rw [List.map_cons, av_ref (by omega), Int.toNat_natCast]
  have he := wsOf_get (E := E) (h := h) hi
  rw [ent_obj hc] at he
  refine va_get A.1 A.2.1 A.2.2.2.2.2.1 c2 A.2.2.2.2.1 A.2.2.2.2.2.2.1 hW.2.1 i he c1 k hk (A.2.2.2.2.2.1 _ (lg hlk rfl)) (fun _ hx => hx) (v := av E (fk c k, h i k)) ?_ hd (kk E p e s m args below meth cd A H locs ls hW hS hl)
  rw [List.getElem?_map, List.getElem?_range hk]; rfl
theorem s_put {c k idx t : Nat} {a j x : Int} (hd : decode M.2.1 pc = .ok (.putfield idx, 3)) (hlk : Cond.fieldLink M.1.cls idx (cT c k).1 (cT c k).2.1 (cT c k).2.2.1 ∈ lw_tbl) (hc : c < 10) (hk : k < cN c) (hfin : (cT c k).2.2.2 = false) (ht : fk c k = t) (hj : (k : Int) = j) (hn : ∀ E : EV, narrow (cty c k) (av E (t, x)) = av E (t, x) ∧ fits (cty c k) (av E (t, x)) = true) (hty : ty G a = c) (kk : S l M b (pc + 3) loc st G (hset h a j x) Q) : S l M b pc loc ((t, x) :: vR a :: st) G h Q := by
  intro E p e s m args below meth cd A H locs ls hW hS hl
  subst hj; subst ht
  obtain ⟨i, n, rfl, hi, -, hil⟩ := ty_some hty (by omega)
  obtain ⟨c1, c2, c3, c4⟩ := cls_ok hc
  have hn1 : n = cN c := (hW.2.2.1 _ (List.mem_of_getElem? hi)).2 hc
  subst hn1
  rw [List.map_cons, List.map_cons, av_ref (by omega), Int.toNat_natCast]
  have hts := A.2.2.2.2.2.1
  have he := wsOf_get (E := E) (h := h) hi
  rw [ent_obj hc] at he
  have hap := va_apart (own := M.1.cls) hts c2 (cty c) c3 c4 A.2.2.2.2.2.2.1 c1
  obtain ⟨r, h1, cell, q1, q2, q3, q4⟩ := hW.2.1 i _ he
  have hr : r = (cR c, cT c, cN c) := Option.some.inj (h1.symm.trans c1)
  subst hr
  obtain ⟨hSl, hfc, kC, hkC, hkind⟩ := A.2.2.2.2.2.2.1.1 c _ c1
  obtain ⟨cf, kf, fi, f, hfi, hsl⟩ := hSl k hk
  have hlay := hts _ (c2 _ (u_in_lay hk))
  unfold u_lay at hlay
  rw [if_neg (by rw [hfin]; decide)] at hlay
  have hst := (u_facts hfc hkC (u_lays hts c2 hk) hfi).1
  have h6 := u_store hfc hkC hkind hlay hfi (c3 k hk) (hn E).1 (hn E).2
  refine W.putK A.1 A.2.1 (f := f) ⟨A.2.2.2.2.1, hts _ (lg hlk rfl), ⟨_, _, _, hfi⟩, hst⟩ (by rw [q2]; exact h6) q1 q3 (by rw [hsl]; exact k2_hasslot (q4 k hk)) rfl rfl hd fun H' e1 e2 e3 => ?_
  rw [hsl] at e1 ⊢
  have hP1 : va_P E.1 vwCl ((wsOf E G h).set i (eB E + i, .inr (c, ((List.range (cN c)).map fun j => av E (fk c j, h i j)).set k (av E (fk c k, x))))) H' := hW.2.1.set wsOf_D he ⟨_, c1, t_OB.to (V := updV (vp_V ((List.range (cN c)).map fun j => av E (fk c j, h i j))) k (av E (fk c k, x))) ⟨_, e1, q2, q3, t_set q4 hap hk _⟩ (fun j _ => vp_updV_set (by simpa using hk) _ j)⟩ e3
  refine kk E p e s m args below meth cd A H' _ ls (Wld_set hW e2 hi ?_ hP1 (fun e => by simp at e; omega)) (hS.put e2 e3 (by unfold frA; omega)) hl
  rw [ent_obj hc, hset_map hk]
theorem s_putF {c k idx t : Nat} {a j x : Int} (hd : decode M.2.1 pc = .ok (.putfield idx, 3)) (hlk : Cond.fieldLink M.1.cls idx (cT c k).1 (cT c k).2.1 (cT c k).2.2.1 ∈ lw_tbl) (hc : c < 10) (hk : k < cN c) (hfin : (cT c k).2.2.2 = true) (hin2 : M.1.name = "<init>") (hdecl : (cT c k).1 = M.1.cls) (ht : fk c k = t) (hj : (k : Int) = j) (hn : ∀ E : EV, narrow (cty c k) (av E (t, x)) = av E (t, x) ∧ fits (cty c k) (av E (t, x)) = true) (hty : ty G a = c) (kk : S l M b (pc + 3) loc st G (hset h a j x) Q) : S l M b pc loc ((t, x) :: vR a :: st) G h Q := by
  intro E p e s m args below meth cd A H locs ls hW hS hl
  subst hj; subst ht
  obtain ⟨i, n, rfl, hi, -, hil⟩ := ty_some hty (by omega)
  obtain ⟨c1, c2, c3, c4⟩ := cls_ok hc
  have hn1 : n = cN c := (hW.2.2.1 _ (List.mem_of_getElem? hi)).2 hc
  subst hn1
  rw [List.map_cons, List.map_cons, av_ref (by omega), Int.toNat_natCast]
  have hts := A.2.2.2.2.2.1
  have hown := A.2.2.2.2.1
  have he := wsOf_get (E := E) (h := h) hi
  rw [ent_obj hc] at he
  have hap := va_apart (own := M.1.cls) hts c2 (cty c) c3 c4 A.2.2.2.2.2.2.1 c1
  obtain ⟨r, h1, cell, q1, q2, q3, q4⟩ := hW.2.1 i _ he
  have hr : r = (cR c, cT c, cN c) := Option.some.inj (h1.symm.trans c1)
  subst hr
  obtain ⟨hSl, hfc, kC, hkC, hkind⟩ := A.2.2.2.2.2.2.1.1 c _ c1
  obtain ⟨cf, kf, fi, f, hfi, hsl⟩ := hSl k hk
  have hlay := hts _ (c2 _ (u_in_lay hk))
  unfold u_lay at hlay
  rw [if_pos hfin] at hlay
  have hst := (u_facts hfc hkC (u_lays hts c2 hk) hfi).1
  have hcf : m.cls = cf := by
    obtain ⟨_, _, c', _, _, _, -, -, hf', -, -, -, hown2, -⟩ := Cond.laysFinal_spec hlay
    have e1 : c' = cf := by have := hfi.symm.trans hf'; simp at this; exact this.1.symm
    rw [hdecl] at hown2
    rw [← e1]; exact Option.some.inj (hown.symm.trans hown2)
  have h6 := u_fits hfc hkC hkind (Or.inr hlay) hfi (c3 k hk) (hn E).1 (hn E).2
  refine W.putFinK A.1 A.2.1 hown (hts _ (lg hlk rfl)) hfi hst hcf (A.2.2.2.2.2.2.2.2.1.trans hin2) (by rw [q2]; exact h6) q1 q3 (by rw [hsl]; exact k2_hasslot (q4 k hk)) rfl rfl hd fun H' e1 e2 e3 => ?_
  rw [hsl] at e1 ⊢
  have hP1 : va_P E.1 vwCl ((wsOf E G h).set i (eB E + i, .inr (c, ((List.range (cN c)).map fun j => av E (fk c j, h i j)).set k (av E (fk c k, x))))) H' := hW.2.1.set wsOf_D he ⟨_, c1, t_OB.to (V := updV (vp_V ((List.range (cN c)).map fun j => av E (fk c j, h i j))) k (av E (fk c k, x))) ⟨_, e1, q2, q3, t_set q4 hap hk _⟩ (fun j _ => vp_updV_set (by simpa using hk) _ j)⟩ e3
  refine kk E p e s m args below meth cd A H' _ ls (Wld_set hW e2 hi ?_ hP1 (fun e => by simp at e; omega)) (hS.put e2 e3 (by unfold frA; omega)) hl
  rw [ent_obj hc, hset_map hk]
abbrev inA (G : GS) (t : Nat) (a i : Int) : Prop := ty G a = t ∧ 0 ≤ i ∧ i < ln G a
theorem in_of {n : Nat} {i : Int} (h0 : 0 ≤ i) (h1 : i < (n : Int)) (hn : n < 2 ^ 31) : vp_in (Int32.ofInt i) n ∧ (Int32.ofInt i).toNatClampNeg = i.toNat := by
  have e := i32_cl h0 (by omega)
  refine ⟨?_, e⟩
  rw [vp_in_iff, i32 ⟨by omega, by omega⟩]
  exact ⟨h0, h1⟩
theorem s_iald {a i : Int} (hd : decode M.2.1 pc = .ok (.iaload, 1)) (hin : inA G 10 a i) (kk : S l M b (pc + 1) loc (vI (h a i) :: st) G h Q) : S l M b pc loc (vI i :: vR a :: st) G h Q := by
  intro E p e s m args below meth cd A H locs ls hW hS hl
  obtain ⟨hty, h0, h1⟩ := hin
  obtain ⟨k, n, rfl, hi, hln, hil⟩ := ty_some hty (by omega)
  rw [hln] at h1
  obtain ⟨hv, hcl⟩ := in_of h0 h1 (hW.2.2.1 _ (List.mem_of_getElem? hi)).1
  rw [List.map_cons, List.map_cons, av_ref (by omega), Int.toNat_natCast]
  refine va_iald A.1 A.2.1 A.2.2.2.2.2.2.1 hW.2.1 k 0 (wsOf_get (E := E) (h := h) hi) rfl hv hd ?_
  rw [hcl]
  have := kk E p e s m args below meth cd A H locs ls hW hS hl
  rw [show (i : Int) = (i.toNat : Int) by omega] at this
  exact this
theorem s_zald {a i : Int} (hd : decode M.2.1 pc = .ok (.baload, 1)) (hin : inA G 11 a i) (kk : S l M b (pc + 1) loc (vI (h a i) :: st) G h Q) : S l M b pc loc (vI i :: vR a :: st) G h Q := by
  intro E p e s m args below meth cd A H locs ls hW hS hl
  obtain ⟨hty, h0, h1⟩ := hin
  obtain ⟨k, n, rfl, hi, hln, hil⟩ := ty_some hty (by omega)
  rw [hln] at h1
  obtain ⟨hv, hcl⟩ := in_of h0 h1 (hW.2.2.1 _ (List.mem_of_getElem? hi)).1
  rw [List.map_cons, List.map_cons, av_ref (by omega), Int.toNat_natCast]
  refine va_zald A.1 A.2.1 A.2.2.2.2.2.2.1 hW.2.1 k 1 (wsOf_get (E := E) (h := h) hi) rfl hv hd ?_
  rw [hcl]
  have := kk E p e s m args below meth cd A H locs ls hW hS hl
  rw [show (i : Int) = (i.toNat : Int) by omega] at this
  exact this
theorem s_aaldP {a i : Int} (hd : decode M.2.1 pc = .ok (.aaload, 1)) (hin : inA G 12 a i) (kk : S l M b (pc + 1) loc (vR (h a i) :: st) G h Q) : S l M b pc loc (vI i :: vR a :: st) G h Q := by
  intro E p e s m args below meth cd A H locs ls hW hS hl
  obtain ⟨hty, h0, h1⟩ := hin
  obtain ⟨k, n, rfl, hi, hln, hil⟩ := ty_some hty (by omega)
  rw [hln] at h1
  obtain ⟨hv, hcl⟩ := in_of h0 h1 (hW.2.2.1 _ (List.mem_of_getElem? hi)).1
  rw [List.map_cons, List.map_cons, av_ref (by omega), Int.toNat_natCast]
  refine va_aldq A.1 A.2.1 A.2.2.2.2.2.2.1 hW.2.1 k 2 (wsOf_get (E := E) (h := h) hi) rfl hv hd ?_
  rw [hcl]
  have := kk E p e s m args below meth cd A H locs ls hW hS hl
  rw [show (i : Int) = (i.toNat : Int) by omega] at this
  exact this
theorem arr_upd {E : EV} {h : HP} {k : Nat} {i x : Int} (h0 : 0 ≤ i) (cA : ClassId) (n : Nat) : (arrV cA n fun j => Value.int (Int32.ofInt (h k j))).setSlot i.toNat (.int (Int32.ofInt x)) = arrV cA n fun j => .int (Int32.ofInt (hset h k i x k j)) := by
  rw [arrV_store]
  congr 1
  funext q
  by_cases hq : q = i.toNat
  · subst hq
    have e : ((i.toNat : Nat) : Int) = i := by omega
    simp [updV, hset, e]
  · have e : ¬ ((q : Int) = i) := by omega
    simp [updV, hq, hset, e]
theorem s_iast {a i x : Int} (hd : decode M.2.1 pc = .ok (.iastore, 1)) (hin : inA G 10 a i) (kk : S l M b (pc + 1) loc st G (hset h a i x) Q) : S l M b pc loc (vI x :: vI i :: vR a :: st) G h Q := by
  intro E p e s m args below meth cd A H locs ls hW hS hl
  obtain ⟨hty, h0, h1⟩ := hin
  obtain ⟨k, n, rfl, hi, hln, hil⟩ := ty_some hty (by omega)
  rw [hln] at h1
  obtain ⟨hv, hcl⟩ := in_of h0 h1 (hW.2.2.1 _ (List.mem_of_getElem? hi)).1
  rw [List.map_cons, List.map_cons, List.map_cons, av_ref (by omega), Int.toNat_natCast]
  have he := wsOf_get (E := E) (h := h) hi
  have hc := hW.2.1 k _ he
  refine W.iast A.1 A.2.1 hc ((A.2.2.2.2.2.2.1.2 0 _ rfl).1 n _) (fun q => by cases q) (by show ¬ (_ ∨ (arrV _ _ _).slots.size ≤ _); rw [arrV_size]; exact hv) rfl rfl hd fun H' e1 e2 e3 => ?_
  rw [hcl] at e1 ⊢
  have e4 : H'[eB E + k]? = some (vp_cell E.2.1 (n, .inl fun j => Int32.ofInt (hset h k i x k j))) := e1.trans (congrArg some (arr_upd (E := E) h0 _ _))
  exact kk E p e s m args below meth cd A H' _ ls (Wld_set hW e2 hi (e := .inl (E.2.1, n, .inl fun j => Int32.ofInt (hset h k i x k j))) rfl (hW.2.1.set wsOf_D he e4 e3) (fun e => by simp at e)) (hS.put e2 e3 (by unfold frA; omega)) hl
theorem s_zast {a i x : Int} (hd : decode M.2.1 pc = .ok (.bastore, 1)) (hx : x = 0 ∨ x = 1) (hin : inA G 11 a i) (kk : S l M b (pc + 1) loc st G (hset h a i x) Q) : S l M b pc loc (vI x :: vI i :: vR a :: st) G h Q := by
  intro E p e s m args below meth cd A H locs ls hW hS hl
  obtain ⟨hty, h0, h1⟩ := hin
  obtain ⟨k, n, rfl, hi, hln, hil⟩ := ty_some hty (by omega)
  rw [hln] at h1
  obtain ⟨hv, hcl⟩ := in_of h0 h1 (hW.2.2.1 _ (List.mem_of_getElem? hi)).1
  rw [List.map_cons, List.map_cons, List.map_cons, av_ref (by omega), Int.toNat_natCast]
  have he := wsOf_get (E := E) (h := h) hi
  have hc := hW.2.1 k _ he
  refine W.zast A.1 A.2.1 hc ((A.2.2.2.2.2.2.1.2 1 _ rfl).1 n _) (fun q => by cases q) (by show ¬ (_ ∨ (arrV _ _ _).slots.size ≤ _); rw [arrV_size]; exact hv) rfl rfl hd fun H' e1 e2 e3 => ?_
  have en : narrow .boolean (.int (Int32.ofInt x)) = .int (Int32.ofInt x) := by rcases hx with rfl | rfl <;> rfl
  rw [en] at e1
  rw [hcl] at e1 ⊢
  have e4 : H'[eB E + k]? = some (vp_cell E.2.2.1 (n, .inl fun j => Int32.ofInt (hset h k i x k j))) := e1.trans (congrArg some (arr_upd (E := E) h0 _ _))
  exact kk E p e s m args below meth cd A H' _ ls (Wld_set hW e2 hi (e := .inl (E.2.2.1, n, .inl fun j => Int32.ofInt (hset h k i x k j))) rfl (hW.2.1.set wsOf_D he e4 e3) (fun _ => hx)) (hS.put e2 e3 (by unfold frA; omega)) hl
theorem s_alen {a : Int} (hd : decode M.2.1 pc = .ok (.arraylength, 1)) (hty : ty G a = 10) (kk : S l M b (pc + 1) loc (vI (ln G a) :: st) G h Q) : S l M b pc loc (vR a :: st) G h Q := by
  intro E p e s m args below meth cd A H locs ls hW hS hl
  obtain ⟨k, n, rfl, hi, hln, hil⟩ := ty_some hty (by omega)
  rw [List.map_cons, av_ref (by omega), Int.toNat_natCast]
  rw [hln] at kk
  exact va_alen A.1 A.2.1 A.2.2.2.2.2.2.1 hW.2.1 k 0 (wsOf_get (E := E) (h := h) hi) rfl (v := Int32.ofInt (n : Int)) rfl hd (kk E p e s m args below meth cd A H locs ls hW hS hl)
/-- returns -/
theorem s_iret {x : Int} (hd : decode M.2.1 pc = .ok (.ireturn, 1)) (hr : M.2.2.2 = some .int) (hb : b.2.2.2.1 ≤ b.2.1 ∧ b.2.2.2.2 ≤ b.2.2.1) (hq : Q x G h) : S l M b pc loc [vI x] G h Q := by
  intro E p e s m args below meth cd A H locs ls hW hS hl
  have hlk : meth.locks = false := A.2.2.2.2.2.2.2.1
  refine W.widen hb.1 hb.2 (W.iret A.1 A.2.1 (A.2.2.1.trans hr) (fun t ht hw => ?_) (fun q hq => hS.2.2 q hq) hd hlk)
  exact ⟨⟨x, G, h, by unfold rtv; rw [hr], hq, by rw [ht]; exact hW⟩, hS.F ht⟩
theorem s_zret {x : Int} (hd : decode M.2.1 pc = .ok (.ireturn, 1)) (hr : M.2.2.2 = some .boolean) (hb : b.2.2.2.1 ≤ b.2.1 ∧ b.2.2.2.2 ≤ b.2.2.1) (hx : x = 0 ∨ x = 1) (hq : Q x G h) : S l M b pc loc [vI x] G h Q := by
  intro E p e s m args below meth cd A H locs ls hW hS hl
  have hlk : meth.locks = false := A.2.2.2.2.2.2.2.1
  refine W.widen hb.1 hb.2 (W.zret A.1 A.2.1 (A.2.2.1.trans hr) (by rcases hx with rfl | rfl <;> rfl) (fun t ht hw => ?_) (fun q hq => hS.2.2 q hq) hd hlk)
  exact ⟨⟨x, G, h, by unfold rtv; rw [hr], hq, by rw [ht]; exact hW⟩, hS.F ht⟩
theorem s_lret {x : Int} (hd : decode M.2.1 pc = .ok (.lreturn, 1)) (hr : M.2.2.2 = some .long) (hb : b.2.2.2.1 ≤ b.2.1 ∧ b.2.2.2.2 ≤ b.2.2.1) (hq : Q x G h) : S l M b pc loc [vL x] G h Q := by
  intro E p e s m args below meth cd A H locs ls hW hS hl
  have hlk : meth.locks = false := A.2.2.2.2.2.2.2.1
  refine W.widen hb.1 hb.2 (W.lret A.1 A.2.1 (A.2.2.1.trans hr) (fun t ht hw => ?_) (fun q hq => hS.2.2 q hq) hd hlk)
  exact ⟨⟨x, G, h, by unfold rtv; rw [hr], hq, by rw [ht]; exact hW⟩, hS.F ht⟩
theorem s_vret (hd : decode M.2.1 pc = .ok (.return_, 1)) (hr : M.2.2.2 = none) (hb : b.2.2.2.1 ≤ b.2.1 ∧ b.2.2.2.2 ≤ b.2.2.1) (hq : Q 0 G h) : S l M b pc loc [] G h Q := by
  intro E p e s m args below meth cd A H locs ls hW hS hl
  have hlk : meth.locks = false := A.2.2.2.2.2.2.2.1
  refine W.widen hb.1 hb.2 (W.vret A.1 A.2.1 (A.2.2.1.trans hr) (fun t ht hw => ?_) (fun q hq => hS.2.2 q hq) hd hlk)
  exact ⟨⟨0, G, h, by unfold rtv; rw [hr], hq, by rw [ht]; exact hW⟩, hS.F ht⟩
end Mem
end
section
theorem argl_get {E : EV} : ∀ (As : List AV) (i j : Nat) (v : AV), (argl As)[i]? = some (some v) → (j + i, av E v) ∈ lv_args j (As.map (av E))
  | [], i, j, v, h => by simp [argl] at h
  | (1, x) :: As, i, j, v, h => by
    match i with
    | 0 => simp [argl] at h; subst h; exact List.mem_cons_self
    | 1 => simp [argl] at h
    | i + 2 =>
      have h2 : (argl As)[i]? = some (some v) := by simpa [argl] using h
      have := argl_get (E := E) As i (j + 2) v h2
      rw [show j + (i + 2) = j + 2 + i by omega]
      exact List.mem_cons_of_mem _ this
  | (0, x) :: As, i, j, v, h => by
    match i with
    | 0 => simp [argl] at h; subst h; exact List.mem_cons_self
    | i + 1 =>
      have h2 : (argl As)[i]? = some (some v) := by simpa [argl] using h
      have := argl_get (E := E) As i (j + 1) v h2
      rw [show j + (i + 1) = j + 1 + i by omega]
      exact List.mem_cons_of_mem _ this
  | (t + 2, x) :: As, i, j, v, h => by
    match i with
    | 0 => simp [argl] at h; subst h; exact List.mem_cons_self
    | i + 1 =>
      have h2 : (argl As)[i]? = some (some v) := by simpa [argl] using h
      have := argl_get (E := E) As i (j + 1) v h2
      rw [show j + (i + 1) = j + 1 + i by omega]
      refine List.mem_cons_of_mem _ ?_
      show _ ∈ lv_args (if (av E (t + 2, x)).category = 2 then j + 2 else j + 1) (As.map (av E))
      rw [av_cat, if_neg (by simp [ctg])]
      exact this
theorem argl_len {E : EV} : ∀ (As : List AV), (lg_sl (As.map (av E))).length = (argl As).length
  | [] => rfl
  | (0, x) :: As => by
    have := argl_len (E := E) As
    simpa [lg_sl, argl, av, Value.category] using this
  | (1, x) :: As => by
    have := argl_len (E := E) As
    simpa [lg_sl, argl, av, Value.category] using this
  | (t + 2, x) :: As => by
    have := argl_len (E := E) As
    have hc : (av E (t + 2, x)).category = 1 := by rw [av_cat]; simp [ctg]
    simp only [lg_sl, List.map_cons, List.flatMap_cons, hc] at this ⊢
    simpa [argl] using this
def nlen (As : List AV) (n : Nat) : Prop := (argl As).length ≤ n
theorem R_of_S {l : Launch} {M : MD} {d mc ms : Nat} {As : List AV} {G : GS} {h : HP} {Q : Int → GS → HP → Prop} (hp : plainName M.1.cls = true) (hn : (argl As).length ≤ M.2.2.1) (k : S l M (d, mc, ms, 0, 0) 0 (argl As) [] G h Q) : R l M d mc ms As G h Q := by
  intro E
  refine Met.ofW (cc := M.2.1) (maxL := M.2.2.1) (ret := M.2.2.2) hp rfl ?_
  intro p e s m args below meth c s₁ B hml hv
  obtain ⟨rfl, hWd, hK⟩ := hv
  have hts := atoms_spec (ws := wsM M) B.pre
  have hnm : meth.name = M.1.name := (name_of_methodNamed B.named B.method).1
  have hA : Act M E p s m (As.map (av E)).toArray meth c := ⟨B.exec, B.bytes, B.returns, hml, findClass_of_methodNamed B.named, fun w hw => hts w (List.mem_cons_of_mem _ hw), hK, B.notSynchronized, hnm, by rw [hWd.1]; omega⟩
  have hle : (lg_sl (As.map (av E))).length ≤ M.2.2.1 := by rw [argl_len]; exact hn
  have hl := lv_entry (As.map (av E)) hle
  rw [lg_entry_eq]
  refine k E p e s m _ below meth c hA s.heap [] _ hWd va_S.rf ⟨hl.1, hl.2.1, fun i v hv => ?_⟩
  have := argl_get (E := E) As i 0 v hv
  rw [Nat.zero_add] at this
  exact hl.2.2 _ this
def Cal (M : MD) (n : Nat) : Prop := Cond.code M.1 M.2.1 M.2.2.1 M.2.2.2 ∈ lw_tbl ∧ Cond.initialized M.1.cls ∈ lw_tbl ∧ (M.1.cls ≠ "java/lang/invoke/MethodHandle" ∧ M.1.cls ≠ "java/lang/invoke/VarHandle" ∧ (parseMethodDescriptor M.1.desc).map (fun d => d.parameters.length) = some n) ∧ M.2.2.1 ≤ 40
def CalV (M : MD) (n c : Nat) : Prop := Cal M n ∧ Cond.instanceMethod M.1 ∈ lw_tbl ∧ Cond.selects M.1.cls M.1 M.1 ∈ lw_tbl ∧ cR c = M.1.cls ∧ c < 10
def CalS (M : MD) (n : Nat) : Prop := Cal M n ∧ Cond.static M.1 ∈ lw_tbl
def CalI (M : MD) (n : Nat) : Prop := Cal M n ∧ Cond.instanceMethod M.1 ∈ lw_tbl ∧ M.1.name = "<init>" ∧ M.2.2.2 = none
theorem wsM_good {M : MD} (hc : Cond.code M.1 M.2.1 M.2.2.1 M.2.2.2 ∈ lw_tbl) : GoodIn lw_g (wsM M) := by
  intro w hw
  have hm : w ∈ lw_g := by
    rcases List.mem_cons.mp hw with rfl | h
    · exact lg hc rfl
    · exact h
  exact ⟨hm, good_of_word (List.mem_filter.mp hm).2⟩
def rts (M : MD) (r : Int) : List AV := match M.2.2.2 with
  | none => []
  | some .long => [vL r]
  | _ => [vI r]
theorem rts_map (E : EV) (M : MD) (r : Int) : (rtv M r).toList = (rts M r).map (av E) := by
  unfold rtv rts
  rcases M.2.2.2 with _ | t
  · rfl
  · cases t <;> rfl
section Cals
variable {l : Launch} {M M' : MD} {pc : Nat} {loc : LV} {st stk : List AV} {G : GS} {h : HP} {Q : Int → GS → HP → Prop} {d mc ms cu su n idx : Nat} {As : List AV}
theorem pc_blind {E : EV} {As : List Value} {G : GS} {h : HP} : FrameBlind (va_Pc As (fun U => Wld E G h U.heap ∧ KN E U)) := by
  intro a U g mk q
  obtain ⟨q0, q1, q2⟩ := q
  exact ⟨q0, q1, va_K.moved (u := U) (U := U.calling g mk a) (Vm.Alike.refl U.vm) q2⟩
theorem cat_sum (E : EV) (st : List AV) : ((st.map (av E)).map fun v => v.category).sum = (st.map ctg).sum := by
  rw [List.map_map]
  congr 1
  apply List.map_congr_left
  intro v _
  exact av_cat E v
theorem W_run {E : EV} {p : Program} {e : Env} {RR : Room} {s : State} {m : MethodId} {args : Array Value} {below : List Frame} {meth : Method} {c : Code} {H : Heap} {locs : List Loc} {cells slots mc' ms' : Nat} {ls : Array Slot} {st0 rest : List Value} {a : Array Value} {QQ : State → Prop} {Q' : Int → GS → HP → Prop}
    (hr : va_Run p l e RR s m args below meth c H locs cells slots mc' ms' (F0 m pc ls st0) rest (Qd E M' Q' a) (frA E)) (hS : va_S (frA E) s.heap H locs)
    (kk : ∀ (r : Int) (G' : GS) (h' : HP) (H1 : Heap) (locs1 : List Loc), Q' r G' h' → Wld E G' h' H1 → va_S (frA E) s.heap H1 locs1 → W p l e RR s m args below meth c H1 locs1 (cells + mc') (slots + ms') QQ (F0 m (pc + 3) ls ((rtv M' r).toList ++ rest))) : W p l e RR s m args below meth c H locs cells slots QQ (F0 m pc ls st0) := by
  intro T hT X
  obtain ⟨v, st₀, t, T', L, h0, X', hL, e1, e2, ⟨⟨r, G', h', hv, hq, hw⟩, hz, hk⟩, st⟩ := hr T hT X
  cases hv
  rw [h0] at hz hk
  obtain ⟨t2, a1, b1⟩ := kk r G' h' T'.heap (locs ++ L) hq (by rw [e1]; exact hw)
    ⟨Nat.le_trans hS.1 (by rw [e1]; exact hz), fun q h1 h2 => by rw [e1, hk q (Nat.lt_of_lt_of_le h1 hS.1) h2]; exact hS.2.1 q h1 h2, fun q hq => by
      rcases List.mem_append.mp hq with h | h
      · exact hS.2.2 q h
      · exact hL q h⟩ T' rfl X'
  exact ⟨t2, st t2 a1, b1⟩
theorem s_callV {c : Nat} {a : Int} (hd : decode M.2.1 pc = .ok (.invokevirtual idx, 3)) (hlk : Cond.methodLink M.1.cls idx M'.1 ∈ lw_tbl) (hC : CalV M' n c) (hn : As.length = n) (hst : As.reverse ++ vR a :: st = stk) (hw : (st.map ctg).sum ≤ 8) (hb : cu ≤ mc ∧ su ≤ ms) (hty : ty G a = c)
    (kk : R l M' d 0 0 (vR a :: As) G h (fun r G' h' => S l M (d + 1, mc, ms, cu, su) (pc + 3) loc (rts M' r ++ st) G' h' Q)) : S l M (d + 1, mc, ms, cu, su) pc loc stk G h Q := by
  subst hst
  intro E p e s m args below meth cd A H locs ls hW hS hl
  obtain ⟨⟨h1, h2, h3, h4⟩, h5, h6, h7, h8⟩ := hC
  obtain ⟨k, n', rfl, hi, -, hil⟩ := ty_some hty (by omega)
  have hts := A.2.2.2.2.2.1
  have he := wsOf_get (E := E) (h := h) hi
  rw [ent_obj h8] at he
  have hrec := va_recv A.2.2.2.2.2.2.1 hW.2.1 (cls_ok h8).1 he
  have hcw : CallW (rmd (d + 1) mc ms) s args M.1.cls M'.1.cls idx M'.1 M'.2.1 M'.2.2.1 M'.2.2.2 (wsM M') (rmd d 0 0) 0 0 n := ⟨callB_of n hts (wsM_good h1) rfl rfl rfl (hts _ (lg h2 rfl)) (hts _ (lg hlk rfl)) h3 ⟨Nat.le_refl _, by show 8 + (M'.2.2.1 + 11) + 64 * d ≤ 64 * (d + 1); omega⟩, hts _ (lg h5 rfl), hts _ (lg h6 rfl)⟩
  rw [List.map_append, List.map_cons, av_ref (by omega), Int.toNat_natCast]
  refine W_run (va_runV (As := As.map (av E)) (rest := st.map (av E)) (b := eB E + k) ⟨A.1, A.2.1, A.2.2.2.1, A.2.2.2.2.1, hts⟩ (kk E) hcw ⟨pc_blind, (by obtain ⟨c9, a1, a2, a3⟩ := hrec; exact ⟨c9, a1, a2, by rw [← h7]; exact a3⟩), fun U hU hWU => ⟨by rw [List.map_cons, av_ref (by omega), Int.toNat_natCast], by rw [hU]; exact hW, va_K.moved hWU.alike A.2.2.2.2.2.2.1⟩⟩ rfl (by simpa using hn) hl.1 (by rw [List.map_reverse]) (by rw [cat_sum]; show 2 * 0 + _ ≤ 8; omega) hd ⟨by simpa [rmd] using hb.1, by simpa [rmd] using hb.2⟩) hS (fun r G' h' H1 locs1 hQ hW1 hS1 => ?_)
  rw [rts_map E, ← List.map_append]
  exact hQ E p e s m args below meth cd A H1 locs1 ls hW1 hS1 hl
theorem s_callS (hd : decode M.2.1 pc = .ok (.invokestatic idx, 3)) (hlk : Cond.methodLink M.1.cls idx M'.1 ∈ lw_tbl) (hC : CalS M' n) (hn : As.length = n) (hst : As.reverse ++ st = stk) (hw : (st.map ctg).sum ≤ 8) (hb : cu ≤ mc ∧ su ≤ ms)
    (kk : R l M' d 0 0 As G h (fun r G' h' => S l M (d + 1, mc, ms, cu, su) (pc + 3) loc (rts M' r ++ st) G' h' Q)) : S l M (d + 1, mc, ms, cu, su) pc loc stk G h Q := by
  subst hst
  intro E p e s m args below meth cd A H locs ls hW hS hl
  obtain ⟨⟨h1, h2, h3, h4⟩, h5⟩ := hC
  have hts := A.2.2.2.2.2.1
  have hcw : CallB (rmd (d + 1) mc ms) s args M.1.cls idx M'.1 M'.2.1 M'.2.2.1 M'.2.2.2 (wsM M') (rmd d 0 0) 0 0 n ∧ (Cond.static M'.1).before args s = true := ⟨callB_of n hts (wsM_good h1) rfl rfl rfl (hts _ (lg h2 rfl)) (hts _ (lg hlk rfl)) h3 ⟨Nat.le_refl _, by show 8 + (M'.2.2.1 + 11) + 64 * d ≤ 64 * (d + 1); omega⟩, hts _ (lg h5 rfl)⟩
  rw [List.map_append]
  refine W_run (va_runS (As := As.map (av E)) (rest := st.map (av E)) ⟨A.1, A.2.1, A.2.2.2.1, A.2.2.2.2.1, hts⟩ (kk E) hcw ⟨pc_blind, fun U hU hWU => ⟨rfl, by rw [hU]; exact hW, va_K.moved hWU.alike A.2.2.2.2.2.2.1⟩⟩ rfl (by simpa using hn) hl.1 (by rw [List.map_reverse]) (by rw [cat_sum]; show 2 * 0 + _ ≤ 8; omega) hd ⟨by simpa [rmd] using hb.1, by simpa [rmd] using hb.2⟩) hS (fun r G' h' H1 locs1 hQ hW1 hS1 => ?_)
  rw [rts_map E, ← List.map_append]
  exact hQ E p e s m args below meth cd A H1 locs1 ls hW1 hS1 hl
theorem s_callI {mc' ms' : Nat} {a : Int} (hd : decode M.2.1 pc = .ok (.invokespecial idx, 3)) (hlk : Cond.methodLink M.1.cls idx M'.1 ∈ lw_tbl) (hC : CalI M' n) (hn : As.length = n) (hst : As.reverse ++ vR a :: st = stk) (hw : (st.map ctg).sum ≤ 8) (ha : 0 ≤ a) (hb : cu + mc' ≤ mc ∧ su + ms' ≤ ms)
    (kk : R l M' d mc' ms' (vR a :: As) G h (fun r G' h' => S l M (d + 1, mc, ms, cu + mc', su + ms') (pc + 3) loc st G' h' Q)) : S l M (d + 1, mc, ms, cu, su) pc loc stk G h Q := by
  subst hst
  intro E p e s m args below meth cd A H locs ls hW hS hl
  obtain ⟨⟨h1, h2, h3, h4⟩, h5, h6, h7⟩ := hC
  have hts := A.2.2.2.2.2.1
  have h1' := h1
  rw [h7] at h1'
  have hcw : CallB (rmd (d + 1) mc ms) s args M.1.cls idx M'.1 M'.2.1 M'.2.2.1 none (wsM M') (rmd d mc' ms') mc' ms' n ∧ M'.1.name = "<init>" ∧ (Cond.instanceMethod M'.1).before args s = true := ⟨callB_of n hts (wsM_good h1) (by unfold wsM; rw [h7]) rfl rfl (hts _ (lg h2 rfl)) (hts _ (lg hlk rfl)) h3 ⟨Nat.le_refl _, by show 8 + (M'.2.2.1 + 11) + 64 * d ≤ 64 * (d + 1); omega⟩, h6, hts _ (lg h5 rfl)⟩
  rw [List.map_append, List.map_cons, av_ref ha]
  refine W_run (va_runI (As := As.map (av E)) (rest := st.map (av E)) (b := eB E + a.toNat) ⟨A.1, A.2.1, A.2.2.2.1, A.2.2.2.2.1, hts⟩ (kk E) hcw ⟨pc_blind, fun U hU hWU => ⟨by rw [List.map_cons, av_ref ha], by rw [hU]; exact hW, va_K.moved hWU.alike A.2.2.2.2.2.2.1⟩⟩ rfl (by simpa using hn) hl.1 (by rw [List.map_reverse]) (by rw [cat_sum]; show 2 * 0 + _ ≤ 8; omega) hd ⟨by simpa [rmd] using hb.1, by simpa [rmd] using hb.2⟩) hS (fun r G' h' H1 locs1 hQ hW1 hS1 => ?_)
  have e1 : rtv M' r = none := by unfold rtv; rw [h7]
  rw [e1]
  exact hQ E p e s m args below meth cd A H1 locs1 ls hW1 hS1 hl
end Cals
end
section
theorem R_mono {l : Launch} {M : MD} {d mc ms : Nat} {As : List AV} {G : GS} {h : HP} {Q Q' : Int → GS → HP → Prop} (hq : ∀ r G' h', Q r G' h' → Q' r G' h') (k : R l M d mc ms As G h Q) : R l M d mc ms As G h Q' := by
  intro E
  exact Jvm.Free.MetFree.mono (k E) (fun _ _ x => x) (fun _ _ _ _ _ x => x) (fun a s o t _ hx => ⟨⟨by
    obtain ⟨r, G', h', e1, e2, e3⟩ := hx.1.1
    exact ⟨r, G', h', e1, hq _ _ _ e2, e3⟩, hx.1.2⟩, hx.2⟩)
abbrev inL (x : Int) : Prop := -9223372036854775808 ≤ x ∧ x ≤ 9223372036854775807
def cmpI (x y : Int) : Int := if y < x then 1 else if x = y then 0 else -1
theorem i64 {x : Int} (h : inL x) : (Int64.ofInt x).toInt = x := Int64.toInt_ofInt_of_le (by have := h.1; omega) (by have := h.2; omega)
section More
variable {l : Launch} {M : MD} {b : BU} {pc : Nat} {loc : LV} {st : List AV} {G : GS} {h : HP} {Q : Int → GS → HP → Prop}
theorem s_iastH {a i x : Int} (hd : decode M.2.1 pc = .ok (.iastore, 1)) (hin : inA G 10 a i) (kk : ∀ h' : HP, h' = hset h a i x → S l M b (pc + 1) loc st G h' Q) : S l M b pc loc (vI x :: vI i :: vR a :: st) G h Q := s_iast hd hin (kk _ rfl)
theorem s_zastH {a i x : Int} (hd : decode M.2.1 pc = .ok (.bastore, 1)) (hx : x = 0 ∨ x = 1) (hin : inA G 11 a i) (kk : ∀ h' : HP, h' = hset h a i x → S l M b (pc + 1) loc st G h' Q) : S l M b pc loc (vI x :: vI i :: vR a :: st) G h Q := s_zast hd hx hin (kk _ rfl)
theorem s_putI {c k idx : Nat} {a j x : Int} (hd : decode M.2.1 pc = .ok (.putfield idx, 3)) (hlk : Cond.fieldLink M.1.cls idx (cT c k).1 (cT c k).2.1 (cT c k).2.2.1 ∈ lw_tbl) (hc : c < 10) (hk : k < cN c) (hfin : (cT c k).2.2.2 = false) (hi : cty c k = .int) (hj : (k : Int) = j) (hty : ty G a = c) (kk : ∀ h' : HP, h' = hset h a j x → S l M b (pc + 3) loc st G h' Q) : S l M b pc loc (vI x :: vR a :: st) G h Q := s_put hd hlk hc hk hfin (by unfold fk; rw [hi]; rfl) hj (fun E => by rw [hi]; exact ⟨rfl, rfl⟩) hty (kk _ rfl)
theorem s_putZ {c k idx : Nat} {a j x : Int} (hd : decode M.2.1 pc = .ok (.putfield idx, 3)) (hlk : Cond.fieldLink M.1.cls idx (cT c k).1 (cT c k).2.1 (cT c k).2.2.1 ∈ lw_tbl) (hc : c < 10) (hk : k < cN c) (hfin : (cT c k).2.2.2 = false) (hi : cty c k = .boolean) (hj : (k : Int) = j) (hx : x = 0 ∨ x = 1) (hty : ty G a = c) (kk : ∀ h' : HP, h' = hset h a j x → S l M b (pc + 3) loc st G h' Q) : S l M b pc loc (vI x :: vR a :: st) G h Q := s_put hd hlk hc hk hfin (by unfold fk; rw [hi]; rfl) hj (fun E => by rw [hi]; rcases hx with rfl | rfl <;> exact ⟨rfl, rfl⟩) hty (kk _ rfl)
theorem nf_ref {E : EV} {x : Int} {t : FieldType} (ht : (∃ n, t = .object n) ∨ ∃ n, t = .array n) : narrow t (av E (vR x)) = av E (vR x) ∧ fits t (av E (vR x)) = true := by
  by_cases hx : x < 0
  · rw [av_null hx]; rcases ht with ⟨n, rfl⟩ | ⟨n, rfl⟩ <;> exact ⟨rfl, rfl⟩
  · rw [av_ref (Int.not_lt.mp hx)]; rcases ht with ⟨n, rfl⟩ | ⟨n, rfl⟩ <;> exact ⟨rfl, rfl⟩
theorem s_putR {c k idx : Nat} {a j x : Int} (hd : decode M.2.1 pc = .ok (.putfield idx, 3)) (hlk : Cond.fieldLink M.1.cls idx (cT c k).1 (cT c k).2.1 (cT c k).2.2.1 ∈ lw_tbl) (hc : c < 10) (hk : k < cN c) (hfin : (cT c k).2.2.2 = false) (hi : (∃ n, cty c k = .object n) ∨ ∃ n, cty c k = .array n) (hf : fk c k = 2) (hj : (k : Int) = j) (hty : ty G a = c) (kk : ∀ h' : HP, h' = hset h a j x → S l M b (pc + 3) loc st G h' Q) : S l M b pc loc (vR x :: vR a :: st) G h Q := s_put hd hlk hc hk hfin hf hj (fun E => nf_ref hi) hty (kk _ rfl)
theorem s_putFR {c k idx : Nat} {a j x : Int} (hd : decode M.2.1 pc = .ok (.putfield idx, 3)) (hlk : Cond.fieldLink M.1.cls idx (cT c k).1 (cT c k).2.1 (cT c k).2.2.1 ∈ lw_tbl) (hc : c < 10) (hk : k < cN c) (hfin : (cT c k).2.2.2 = true) (hin2 : M.1.name = "<init>") (hdecl : (cT c k).1 = M.1.cls) (hi : (∃ n, cty c k = .object n) ∨ ∃ n, cty c k = .array n) (hf : fk c k = 2) (hj : (k : Int) = j) (hty : ty G a = c) (kk : ∀ h' : HP, h' = hset h a j x → S l M b (pc + 3) loc st G h' Q) : S l M b pc loc (vR x :: vR a :: st) G h Q := s_putF hd hlk hc hk hfin hin2 hdecl hf hj (fun E => nf_ref hi) hty (kk _ rfl)
theorem s_i2l {x : Int} (hd : decode M.2.1 pc = .ok (.i2l, 1)) (hx : inR x) (k : S l M b (pc + 1) loc (vL x :: st) G h Q) : S l M b pc loc (vI x :: st) G h Q := by
  intro E p e s m args below meth c A H locs ls hW hS hl
  refine lv_i2l A.1 A.2.1 hd (v := Int64.ofInt x) ?_ (k E p e s m args below meth c A H locs ls hW hS hl)
  rw [← Int64.toInt_inj, Int32.toInt_toInt64, i32 hx, i64 ⟨by have := hx.1; omega, by have := hx.2; omega⟩]
theorem s_lcmp {x y : Int} (hd : decode M.2.1 pc = .ok (.lcmp, 1)) (hx : inL x) (hy : inL y) (k : S l M b (pc + 1) loc (vI (cmpI x y) :: st) G h Q) : S l M b pc loc (vL y :: vL x :: st) G h Q := by
  intro E p e s m args below meth c A H locs ls hW hS hl
  refine W.lcmp A.1 A.2.1 hd ?_
  have e1 : lg_cmp (Int64.ofInt x) (Int64.ofInt y) = Int32.ofInt (cmpI x y) := by
    have q1 : (Int64.ofInt x > Int64.ofInt y) ↔ y < x := by
      show Int64.ofInt y < Int64.ofInt x ↔ _
      rw [Int64.lt_iff_toInt_lt, i64 hx, i64 hy]
    have q2 : (Int64.ofInt x = Int64.ofInt y) ↔ x = y := by rw [← Int64.toInt_inj, i64 hx, i64 hy]
    unfold lg_cmp cmpI
    by_cases c1 : y < x
    · rw [if_pos (q1.mpr c1), if_pos c1]; rfl
    · rw [if_neg (fun z => c1 (q1.mp z)), if_neg c1]
      by_cases c2 : x = y
      · rw [if_pos (q2.mpr c2), if_pos c2]; rfl
      · rw [if_neg (fun z => c2 (q2.mp z)), if_neg c2]; rfl
  rw [e1]
  exact k E p e s m args below meth c A H locs ls hW hS hl
theorem s_lsub {x y : Int} (hd : decode M.2.1 pc = .ok (.lsub, 1)) (k : S l M b (pc + 1) loc (vL (x - y) :: st) G h Q) : S l M b pc loc (vL y :: vL x :: st) G h Q := by
  intro E p e s m args below meth c A H locs ls hW hS hl
  refine lv_lsub A.1 A.2.1 hd ?_
  rw [← Int64.ofInt_sub]
  exact k E p e s m args below meth c A H locs ls hW hS hl
theorem s_lmul {x y : Int} (hd : decode M.2.1 pc = .ok (.lmul, 1)) (k : S l M b (pc + 1) loc (vL (x * y) :: st) G h Q) : S l M b pc loc (vL y :: vL x :: st) G h Q := by
  intro E p e s m args below meth c A H locs ls hW hS hl
  refine lv_lmul A.1 A.2.1 hd ?_
  rw [← Int64.ofInt_mul]
  exact k E p e s m args below meth c A H locs ls hW hS hl
theorem s_ldiv {x y : Int} (hd : decode M.2.1 pc = .ok (.ldiv, 1)) (hr : dvR x y) (k : S l M b (pc + 1) loc (vL (x / y) :: st) G h Q) : S l M b pc loc (vL y :: vL x :: st) G h Q := by
  intro E p e s m args below meth c A H locs ls hW hS hl
  refine lv_ldiv A.1 A.2.1 hd ?_ ?_
  · intro z
    have z2 : Int64.ofInt y = Int64.ofInt 0 := z
    rw [← Int64.toInt_inj, i64 ⟨by have := hr.2.1; omega, by have := hr.2.2; omega⟩] at z2
    have := hr.2.1
    have z3 : (Int64.ofInt 0).toInt = 0 := rfl
    omega
  have e1 : Int64.ofInt x / Int64.ofInt y = Int64.ofInt (x / y) := by
    obtain ⟨a, rfl⟩ := Int.eq_ofNat_of_zero_le hr.1.1
    obtain ⟨d, rfl⟩ := Int.eq_ofNat_of_zero_le (Int.le_of_lt hr.2.1)
    exact pk_lDiv (by have := hr.1.2; omega) (by have := hr.2.1; omega) (by have := hr.2.2; omega)
  rw [e1]
  exact k E p e s m args below meth c A H locs ls hW hS hl
theorem ofi_bv (x : Int) : (Int32.ofInt x).toBitVec.toNat = (x % 4294967296).toNat := by
  show (BitVec.ofInt 32 x).toNat = _
  rw [BitVec.toNat_ofInt]; rfl
theorem s_iand31 {x : Int} (hd : decode M.2.1 pc = .ok (.iand, 1)) (k : S l M b (pc + 1) loc (vI (x % 32) :: st) G h Q) : S l M b pc loc (vI 31 :: vI x :: st) G h Q := by
  intro E p e s m args below meth c A H locs ls hW hS hl
  refine lv_iand A.1 A.2.1 hd ?_
  have e1 : Int32.ofInt x &&& Int32.ofInt 31 = Int32.ofInt (x % 32) := by
    rw [pk_and (Int32.ofInt x) (m := Int32.ofInt 31) 5 (by decide), ofi_bv, i32_nat (by omega)]
    congr 1
    omega
  rw [e1]
  exact k E p e s m args below meth c A H locs ls hW hS hl
theorem nq_or (a b : Nat) : nI a ||| nI b = nI (a ||| b) := by
  apply Int32.toBitVec_inj.mp
  show BitVec.ofNat 32 a ||| BitVec.ofNat 32 b = BitVec.ofNat 32 (a ||| b)
  rw [BitVec.ofNat_or]
theorem nq_xor (a b : Nat) : nI a ^^^ nI b = nI (a ^^^ b) := by
  apply Int32.toBitVec_inj.mp
  show BitVec.ofNat 32 a ^^^ BitVec.ofNat 32 b = BitVec.ofNat 32 (a ^^^ b)
  rw [BitVec.ofNat_xor]
theorem s_ior {x y : Int} (hd : decode M.2.1 pc = .ok (.ior, 1)) (hx : 0 ≤ x) (hy : 0 ≤ y) (k : S l M b (pc + 1) loc (vI ((x.toNat ||| y.toNat : Nat) : Int) :: st) G h Q) : S l M b pc loc (vI y :: vI x :: st) G h Q := by
  intro E p e s m args below meth c A H locs ls hW hS hl
  refine lv_ior A.1 A.2.1 hd ?_
  have e1 : Int32.ofInt x ||| Int32.ofInt y = Int32.ofInt ((x.toNat ||| y.toNat : Nat) : Int) := by
    rw [i32_nat hx, i32_nat hy, nq_or]; rfl
  rw [e1]
  exact k E p e s m args below meth c A H locs ls hW hS hl
theorem s_ixor {x y : Int} (hd : decode M.2.1 pc = .ok (.ixor, 1)) (hx : 0 ≤ x) (hy : 0 ≤ y) (k : S l M b (pc + 1) loc (vI ((x.toNat ^^^ y.toNat : Nat) : Int) :: st) G h Q) : S l M b pc loc (vI y :: vI x :: st) G h Q := by
  intro E p e s m args below meth c A H locs ls hW hS hl
  refine lv_ixor A.1 A.2.1 hd ?_
  have e1 : Int32.ofInt x ^^^ Int32.ofInt y = Int32.ofInt ((x.toNat ^^^ y.toNat : Nat) : Int) := by
    rw [i32_nat hx, i32_nat hy, nq_xor]; rfl
  rw [e1]
  exact k E p e s m args below meth c A H locs ls hW hS hl
theorem s_iushr16 {x : Int} (hd : decode M.2.1 pc = .ok (.iushr, 1)) (k : S l M b (pc + 1) loc (vI (x % 4294967296 / 65536) :: st) G h Q) : S l M b pc loc (vI 16 :: vI x :: st) G h Q := by
  intro E p e s m args below meth c A H locs ls hW hS hl
  refine lv_iushr A.1 A.2.1 hd (v := Int32.ofInt (x % 4294967296 / 65536)) ?_ (k E p e s m args below meth c A H locs ls hW hS hl)
  apply Int32.toBitVec_inj.mp
  apply BitVec.eq_of_toNat_eq
  rw [pk_ushr (Int32.ofInt x) (Int32.ofInt 16) 16 (by decide), ofi_bv, ofi_bv]
  omega
theorem s_tabIn {dflt lo hi off v x : Int} {offs : Array Int} {len tgt : Nat} (hd : decode M.2.1 pc = .ok (.tableswitch dflt lo hi offs, len)) (hx : inR x) (hv : x = v) (h1 : lo ≤ v) (h2 : v ≤ hi) (ho : offs[(v - lo).toNat]? = some off) (ht : (pc : Int) + off = (tgt : Int)) (k : S l M b tgt loc st G h Q) : S l M b pc loc (vI x :: st) G h Q := by
  intro E p e s m args below meth c A H locs ls hW hS hl
  have e1 := i32 hx
  subst hv
  exact lv_tableIn A.1 A.2.1 hd (by rw [e1]; omega) (by rw [e1]; omega) (by rw [e1]; exact ho) ht (k E p e s m args below meth c A H locs ls hW hS hl)
theorem s_tabOut {dflt lo hi x : Int} {offs : Array Int} {len tgt : Nat} (hd : decode M.2.1 pc = .ok (.tableswitch dflt lo hi offs, len)) (hx : inR x) (hv : x < lo ∨ hi < x) (ht : (pc : Int) + dflt = (tgt : Int)) (k : S l M b tgt loc st G h Q) : S l M b pc loc (vI x :: st) G h Q := by
  intro E p e s m args below meth c A H locs ls hW hS hl
  have e1 := i32 hx
  exact lv_tableOut A.1 A.2.1 hd (by rw [e1]; exact hv) ht (k E p e s m args below meth c A H locs ls hW hS hl)
theorem s_look {dflt off x : Int} {ps : Array (Int × Int)} {len tgt : Nat} (hd : decode M.2.1 pc = .ok (.lookupswitch dflt ps, len)) (hx : inR x) (hp : (ps.toList.zip (ps.toList.drop 1)).all (fun (a, next) => a.1 < next.1) = true) (ho : Op.lookupswitch.offset ps.toList dflt x = off) (ht : (pc : Int) + off = (tgt : Int)) (k : S l M b tgt loc st G h Q) : S l M b pc loc (vI x :: st) G h Q := by
  intro E p e s m args below meth c A H locs ls hW hS hl
  exact lv_lookup A.1 A.2.1 hd hp (by rw [i32 hx]; exact ho) ht (k E p e s m args below meth c A H locs ls hW hS hl)
theorem s_aaldI {a i : Int} (hd : decode M.2.1 pc = .ok (.aaload, 1)) (hin : inA G 13 a i) (kk : S l M b (pc + 1) loc (vR (h a i) :: st) G h Q) : S l M b pc loc (vI i :: vR a :: st) G h Q := by
  intro E p e s m args below meth cd A H locs ls hW hS hl
  obtain ⟨hty, h0, h1⟩ := hin
  obtain ⟨k, n, rfl, hi, hln, hil⟩ := ty_some hty (by omega)
  rw [hln] at h1
  obtain ⟨hv, hcl⟩ := in_of h0 h1 (hW.2.2.1 _ (List.mem_of_getElem? hi)).1
  have hlt : i.toNat < n := by omega
  rw [List.map_cons, List.map_cons, av_ref (by omega), Int.toNat_natCast]
  refine W.aald (v := va_rf (rfo E (h k (i.toNat : Int)))) (ty := .array .int) A.1 A.2.1 (hW.2.1 k _ (wsOf_get (E := E) (h := h) hi)) ((A.2.2.2.2.2.2.1.2 3 _ rfl).1 n (fun j => va_rf (rfo E (h k j)))) rfl (fun q => by cases q) (by show ¬ (_ ∨ (arrV _ _ _).slots.size ≤ _); rw [arrV_size]; exact hv) (by rw [hcl]; show (arrV _ _ _).slots[_]? = _; rw [arrV_read _ _ hlt]) rfl rfl hd ?_
  have := kk E p e s m args below meth cd A H locs ls hW hS hl
  rw [show (i : Int) = (i.toNat : Int) by omega] at this
  exact this
end More
end
section
def hcopy (h : HP) (a0 sp a1 dp n : Int) : HP := fun a j => if a = a1 ∧ dp ≤ j ∧ j < dp + n then h a0 (sp + (j - dp)) else h a j
section Copy
variable {l : Launch} {M : MD} {b : BU} {pc : Nat} {loc : LV} {st : List AV} {G : GS} {h : HP} {Q : Int → GS → HP → Prop}
abbrev cpA (G : GS) (a0 sp a1 dp n : Int) : Prop := (ty G a0 = 10 ∧ ty G a1 = 10) ∧ (0 ≤ sp ∧ 0 ≤ dp ∧ 0 ≤ n) ∧ sp + n ≤ ln G a0 ∧ dp + n ≤ ln G a1
set_option maxHeartbeats 1000000 in
theorem s_copy {idx : Nat} {a0 sp a1 dp n : Int} (hd : decode M.2.1 pc = .ok (.invokestatic idx, 3)) (hlk : Cond.methodLink M.1.cls idx arraycopyName ∈ lw_tbl) (hnat : Cond.native arraycopyName ∈ lw_tbl) (hstat : Cond.static arraycopyName ∈ lw_tbl) (hini : Cond.initialized "java/lang/System" ∈ lw_tbl) (hb1 : 1 ≤ b.1) (hw : (st.map ctg).sum ≤ 8) (hA : cpA G a0 sp a1 dp n)
    (kk : ∀ h' : HP, h' = hcopy h a0 sp a1 dp n → S l M b (pc + 3) loc st G h' Q) : S l M b pc loc (vI n :: vI dp :: vR a1 :: vI sp :: vR a0 :: st) G h Q := by
  have kk := kk _ rfl
  intro E p e s m args below meth cd A H locs ls hW hS hl
  obtain ⟨⟨t0, t1⟩, ⟨z0, z1, z2⟩, l0, l1⟩ := hA
  obtain ⟨k0, n0, rfl, hi0, hln0, -⟩ := ty_some t0 (by omega)
  obtain ⟨k1, n1, rfl, hi1, hln1, -⟩ := ty_some t1 (by omega)
  rw [hln0] at l0
  rw [hln1] at l1
  have b0 := (hW.2.2.1 _ (List.mem_of_getElem? hi0)).1
  have b1 := (hW.2.2.1 _ (List.mem_of_getElem? hi1)).1
  have hts := A.2.2.2.2.2.1
  have hK := A.2.2.2.2.2.2.1
  simp only at b0 b1
  rw [List.map_cons, List.map_cons, List.map_cons, List.map_cons, List.map_cons, av_ref (a := (k0 : Int)) (by omega), av_ref (a := (k1 : Int)) (by omega), Int.toNat_natCast, Int.toNat_natCast]
  intro T hT X
  have he0 := wsOf_get (E := E) (h := h) hi0
  have he1 := wsOf_get (E := E) (h := h) hi1
  have hc0 : H[eB E + k0]? = some (vp_cell E.2.1 (n0, .inl fun j => Int32.ofInt (h k0 j))) := hW.2.1 k0 _ he0
  have hc1 : H[eB E + k1]? = some (vp_cell E.2.1 (n1, .inl fun j => Int32.ofInt (h k1 j))) := hW.2.1 k1 _ he1
  obtain ⟨-, kc, hkc, cm0, hkk0⟩ := (hK.2 0 _ rfl).1 n0 (fun j => .int (Int32.ofInt (h k0 j)))
  have es : (Int32.ofInt sp).toNatClampNeg = sp.toNat := i32_cl z0 (by omega)
  have ed : (Int32.ofInt dp).toNatClampNeg = dp.toNat := i32_cl z1 (by omega)
  have en : (Int32.ofInt n).toNatClampNeg = n.toNat := i32_cl z2 (by omega)
  have ng : ∀ z : Int, 0 ≤ z → z ≤ 2147483647 → ¬ Int32.ofInt z < 0 := fun z h1 h2 => by
    rw [show (0 : Int32) = Int32.ofInt 0 from rfl, i32_lt ⟨by omega, h2⟩ (by decide)]; omega
  have hroom : 2 * (F0 m pc ls (.int (Int32.ofInt n) :: .int (Int32.ofInt dp) :: .ref (eB E + k1) :: .int (Int32.ofInt sp) :: .ref (eB E + k0) :: st.map (av E))).monitorRoom + ((st.map (av E)).map fun v => v.category).sum + (nativeFrameWords "java/lang/System" "arraycopy" 5 + 11) ≤ (rmd b.1 b.2.1 b.2.2.1).locals := by
    rw [cat_sum]
    have h40 : nativeFrameWords "java/lang/System" "arraycopy" 5 ≤ 40 := by decide
    show 2 * 0 + _ + _ ≤ 64 * b.1
    omega
  obtain ⟨vm', X', step⟩ := X.arraycopy A.1 A.2.2.2.2.1 (hts _ (lg hlk rfl)) (hts _ (lg hnat rfl)) (hts _ (lg hstat rfl)) (hts _ (lg hini rfl)) (src := eB E + k0) (dst := eB E + k1) (cs := vp_cell E.2.1 (n0, .inl fun j => Int32.ofInt (h k0 j))) (cd := vp_cell E.2.1 (n1, .inl fun j => Int32.ofInt (h k1 j))) (srcPos := Int32.ofInt sp) (destPos := Int32.ofInt dp) (n := Int32.ofInt n) (by rw [hT]; exact hc0) (by rw [hT]; exact hc1)
    (fun _ h => by cases h) (fun _ h => by cases h) (fun h => by cases h) (fun h => by cases h) hkc hkc hkk0 hkk0 (by simp [refKind]) (ng sp z0 (by omega)) (ng dp z1 (by omega)) (ng n z2 (by omega))
    (by rw [i32 ⟨by omega, by omega⟩, i32 ⟨by omega, by omega⟩]; show ¬ _ > ((arrV _ n0 (fun j => Value.int (Int32.ofInt (h k0 j)))).slots.size : Int); rw [arrV_size]; omega)
    (by rw [i32 ⟨by omega, by omega⟩, i32 ⟨by omega, by omega⟩]; show ¬ _ > ((arrV _ n1 (fun j => Value.int (Int32.ofInt (h k1 j)))).slots.size : Int); rw [arrV_size]; omega)
    (fun vm₁ _ i hi => by
      have e : (vp_cell E.2.1 (n0, .inl fun j => Int32.ofInt (h k0 j))).slots.getD ((Int32.ofInt sp).toNatClampNeg + i) .null = .int (Int32.ofInt (h k0 ((Int32.ofInt sp).toNatClampNeg + i : Nat))) := by
        show (arrV _ n0 (fun j => Value.int (Int32.ofInt (h k0 j)))).slots.getD _ _ = _
        rw [Array.getD_eq_getD_getElem?, arrV_read _ _ (by omega)]
        rfl
      refine ⟨?_, ?_⟩
      · rw [e]
        rfl
      · rw [e]
        exact trivial)
    (g := F0 m pc ls (.int (Int32.ofInt n) :: .int (Int32.ofInt dp) :: .ref (eB E + k1) :: .int (Int32.ofInt sp) :: .ref (eB E + k0) :: st.map (av E))) rfl (by rw [A.2.2.2.1]; exact hl.1) (rest := st.map (av E)) rfl (by rw [A.2.1]; exact hd) hb1 hroom
  have e1 : copied (vp_cell E.2.1 (n0, .inl fun j => Int32.ofInt (h k0 j))) (vp_cell E.2.1 (n1, .inl fun j => Int32.ofInt (h k1 j))) (Int32.ofInt sp) (Int32.ofInt dp) (Int32.ofInt n) = vp_cell E.2.1 (n1, .inl (va_cpy (fun j => Int32.ofInt (h k0 j)) (fun j => Int32.ofInt (h k1 j)) (Int32.ofInt sp).toNatClampNeg (Int32.ofInt dp).toNatClampNeg (Int32.ofInt n).toNatClampNeg)) := va_copied (n0 := n0) (n1 := n1) (sp := (Int32.ofInt sp).toNatClampNeg) (dp := (Int32.ofInt dp).toNatClampNeg) (n := (Int32.ofInt n).toNatClampNeg) (fun z => .int z) E.2.1 E.2.1 (fun j => Int32.ofInt (h k0 j)) (fun j => Int32.ofInt (h k1 j)) (by rw [es, en]; omega)
  have e2 : va_cpy (fun j => Int32.ofInt (h k0 j)) (fun j => Int32.ofInt (h k1 j)) (Int32.ofInt sp).toNatClampNeg (Int32.ofInt dp).toNatClampNeg (Int32.ofInt n).toNatClampNeg = fun j : Nat => Int32.ofInt (hcopy h k0 sp k1 dp n k1 (j : Int)) := by
    rw [es, ed, en]
    funext j
    unfold va_cpy hcopy
    by_cases c : dp.toNat ≤ j ∧ j < dp.toNat + n.toNat
    · rw [if_pos c, if_pos ⟨rfl, by omega, by omega⟩]
      show Int32.ofInt (h k0 ((sp.toNat + (j - dp.toNat) : Nat) : Int)) = _
      rw [show ((sp.toNat + (j - dp.toNat) : Nat) : Int) = sp + ((j : Int) - dp) by omega]
    · rw [if_neg c, if_neg (fun q => c ⟨by omega, by omega⟩)]
  rw [e1, e2] at X' step
  generalize hcell : vp_cell E.2.1 (n1, .inl fun j : Nat => Int32.ofInt (hcopy h k0 sp k1 dp n k1 (j : Int))) = cl1 at X' step
  have hlt : eB E + k1 < H.size := (Array.getElem?_eq_some_iff.mp hc1).1
  have hheap : ((T.setVm vm').setCell (eB E + k1) cl1).heap = H.setIfInBounds (eB E + k1) cl1 := by rw [← hT]; rfl
  have oq : ∀ q : Nat, q ≠ eB E + k1 → (H.setIfInBounds (eB E + k1) cl1)[q]? = H[q]? := fun q hq => by simp [Array.getElem?_setIfInBounds, Ne.symm hq]
  have hsz : (H.setIfInBounds (eB E + k1) cl1).size = H.size := by simp
  have hP1 : va_P E.1 vwCl ((wsOf E G h).set k1 (eB E + k1, .inl (E.2.1, n1, .inl fun j : Nat => Int32.ofInt (hcopy h k0 sp k1 dp n k1 (j : Int))))) (H.setIfInBounds (eB E + k1) cl1) := hW.2.1.set wsOf_D he1 (show (H.setIfInBounds (eB E + k1) cl1)[eB E + k1]? = some _ by simp [hlt, ← hcell]) oq
  have hse := wsOf_set (E := E) (h := h) hi1 (h' := hcopy h k0 sp k1 dp n) (fun i hi => by funext x; unfold hcopy; rw [if_neg (fun q => hi (by omega))]) (e := .inl (E.2.1, n1, .inl fun j : Nat => Int32.ofInt (hcopy h k0 sp k1 dp n k1 (j : Int)))) rfl
  rw [hse] at hP1
  have hW1 : Wld E G (hcopy h k0 sp k1 dp n) (H.setIfInBounds (eB E + k1) cl1) := ⟨hsz.trans hW.1, hP1, hW.2.2.1, fun i ni hi j => by
    unfold hcopy
    by_cases c : (i : Int) = (k1 : Int) ∧ dp ≤ j ∧ j < dp + n
    · have : i = k1 := by omega
      subst this
      rw [hi1] at hi
      cases hi
    · rw [if_neg c]
      exact hW.2.2.2 i ni hi j⟩
  obtain ⟨t, a1, b1⟩ := kk E p e s m args below meth cd A _ _ ls hW1 ⟨by rw [hsz]; exact hS.1, fun q g1 g2 => by
      rw [oq q (fun e => g2 (by rw [e]; unfold frA; omega))]
      exact hS.2.1 q g1 g2, fun q hq => by
      rcases List.mem_append.mp hq with h | h
      · exact hS.2.2 q h
      · obtain ⟨z, -, hz⟩ := List.mem_map.mp h
        rw [← hz]
        show eB E ≤ _
        simp⟩ hl _ hheap X'
  exact ⟨t, step t a1, b1⟩
end Copy
end
