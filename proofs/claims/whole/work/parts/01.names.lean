-- ===== PART A: goes FIRST, ahead of the names: the tables' words, and 'selects' of the private methods out of them =====
/-- a private method of a class that the tables say can be made, by its rows of tables_1 -/
def lw_okq (q : MethodName × Nat) : Prop := (q.1.cls ≠ "java/lang/invoke/MethodHandle" ∧ q.1.cls ≠ "java/lang/invoke/VarHandle") ∧ Cond.instantiable q.1.cls q.2 ∈ tables_1 ∧ Cond.privateMethod q.1 ∈ tables_1 ∧ Cond.instanceMethod q.1 ∈ tables_1
theorem lw_p0 : lw_okq (⟨"SignedCross$Reader", "skipBlanks", "()V"⟩, 7) := ⟨⟨by decide +kernel, by decide +kernel⟩, List.mem_of_getElem? (i := 21) (by decide +kernel), List.mem_of_getElem? (i := 253) (by decide +kernel), List.mem_of_getElem? (i := 254) (by decide +kernel)⟩
theorem lw_p1 : lw_okq (⟨"SignedCross$Reader", "letterHere", "()I"⟩, 7) := ⟨⟨by decide +kernel, by decide +kernel⟩, List.mem_of_getElem? (i := 21) (by decide +kernel), List.mem_of_getElem? (i := 257) (by decide +kernel), List.mem_of_getElem? (i := 258) (by decide +kernel)⟩
theorem lw_p2 : lw_okq (⟨"SignedCross$Reader", "readClause", "()V"⟩, 7) := ⟨⟨by decide +kernel, by decide +kernel⟩, List.mem_of_getElem? (i := 21) (by decide +kernel), List.mem_of_getElem? (i := 261) (by decide +kernel), List.mem_of_getElem? (i := 262) (by decide +kernel)⟩
theorem lw_p3 : lw_okq (⟨"SignedCross$Reader", "fail", "(II)V"⟩, 7) := ⟨⟨by decide +kernel, by decide +kernel⟩, List.mem_of_getElem? (i := 21) (by decide +kernel), List.mem_of_getElem? (i := 265) (by decide +kernel), List.mem_of_getElem? (i := 266) (by decide +kernel)⟩
theorem lw_p4 : lw_okq (⟨"SignedCross$Reader", "readGrandfather", "(I)V"⟩, 7) := ⟨⟨by decide +kernel, by decide +kernel⟩, List.mem_of_getElem? (i := 21) (by decide +kernel), List.mem_of_getElem? (i := 269) (by decide +kernel), List.mem_of_getElem? (i := 270) (by decide +kernel)⟩
theorem lw_p5 : lw_okq (⟨"SignedCross$Reader", "readNumber", "(I)I"⟩, 7) := ⟨⟨by decide +kernel, by decide +kernel⟩, List.mem_of_getElem? (i := 21) (by decide +kernel), List.mem_of_getElem? (i := 273) (by decide +kernel), List.mem_of_getElem? (i := 274) (by decide +kernel)⟩
theorem lw_p6 : lw_okq (⟨"SignedCross$Reader", "readEnd", "()V"⟩, 7) := ⟨⟨by decide +kernel, by decide +kernel⟩, List.mem_of_getElem? (i := 21) (by decide +kernel), List.mem_of_getElem? (i := 280) (by decide +kernel), List.mem_of_getElem? (i := 281) (by decide +kernel)⟩
theorem lw_p7 : lw_okq (⟨"SignedCross$Reader", "readPerson", "(I)V"⟩, 7) := ⟨⟨by decide +kernel, by decide +kernel⟩, List.mem_of_getElem? (i := 21) (by decide +kernel), List.mem_of_getElem? (i := 284) (by decide +kernel), List.mem_of_getElem? (i := 285) (by decide +kernel)⟩
theorem lw_p8 : lw_okq (⟨"SignedCross$Reader", "readPaper", "(I)V"⟩, 7) := ⟨⟨by decide +kernel, by decide +kernel⟩, List.mem_of_getElem? (i := 21) (by decide +kernel), List.mem_of_getElem? (i := 288) (by decide +kernel), List.mem_of_getElem? (i := 289) (by decide +kernel)⟩
theorem lw_p9 : lw_okq (⟨"SignedCross$Reader", "readCandidate", "(I)V"⟩, 7) := ⟨⟨by decide +kernel, by decide +kernel⟩, List.mem_of_getElem? (i := 21) (by decide +kernel), List.mem_of_getElem? (i := 296) (by decide +kernel), List.mem_of_getElem? (i := 297) (by decide +kernel)⟩
theorem lw_p10 : lw_okq (⟨"SignedCross", "isPerson", "(I)Z"⟩, 10) := ⟨⟨by decide +kernel, by decide +kernel⟩, List.mem_of_getElem? (i := 13) (by decide +kernel), List.mem_of_getElem? (i := 332) (by decide +kernel), List.mem_of_getElem? (i := 333) (by decide +kernel)⟩
theorem lw_p11 : lw_okq (⟨"SignedCross", "isPaper", "(I)Z"⟩, 10) := ⟨⟨by decide +kernel, by decide +kernel⟩, List.mem_of_getElem? (i := 13) (by decide +kernel), List.mem_of_getElem? (i := 347) (by decide +kernel), List.mem_of_getElem? (i := 348) (by decide +kernel)⟩
theorem lw_p12 : lw_okq (⟨"SignedCross", "isCandidate", "(I)Z"⟩, 10) := ⟨⟨by decide +kernel, by decide +kernel⟩, List.mem_of_getElem? (i := 13) (by decide +kernel), List.mem_of_getElem? (i := 355) (by decide +kernel), List.mem_of_getElem? (i := 356) (by decide +kernel)⟩
theorem lw_p13 : lw_okq (⟨"SignedCross", "passYears", "(LSignedCross$State;I)V"⟩, 10) := ⟨⟨by decide +kernel, by decide +kernel⟩, List.mem_of_getElem? (i := 13) (by decide +kernel), List.mem_of_getElem? (i := 372) (by decide +kernel), List.mem_of_getElem? (i := 373) (by decide +kernel)⟩
theorem lw_p14 : lw_okq (⟨"SignedCross", "aged", "(IIZ)I"⟩, 10) := ⟨⟨by decide +kernel, by decide +kernel⟩, List.mem_of_getElem? (i := 13) (by decide +kernel), List.mem_of_getElem? (i := 376) (by decide +kernel), List.mem_of_getElem? (i := 377) (by decide +kernel)⟩
theorem lw_p15 : lw_okq (⟨"SignedCross", "shakeOnce", "()V"⟩, 10) := ⟨⟨by decide +kernel, by decide +kernel⟩, List.mem_of_getElem? (i := 13) (by decide +kernel), List.mem_of_getElem? (i := 407) (by decide +kernel), List.mem_of_getElem? (i := 408) (by decide +kernel)⟩
def lw_privs_1 : List (MethodName × Nat) := [(⟨"SignedCross$Reader", "skipBlanks", "()V"⟩, 7), (⟨"SignedCross$Reader", "letterHere", "()I"⟩, 7), (⟨"SignedCross$Reader", "readClause", "()V"⟩, 7), (⟨"SignedCross$Reader", "fail", "(II)V"⟩, 7), (⟨"SignedCross$Reader", "readGrandfather", "(I)V"⟩, 7), (⟨"SignedCross$Reader", "readNumber", "(I)I"⟩, 7), (⟨"SignedCross$Reader", "readEnd", "()V"⟩, 7), (⟨"SignedCross$Reader", "readPerson", "(I)V"⟩, 7), (⟨"SignedCross$Reader", "readPaper", "(I)V"⟩, 7), (⟨"SignedCross$Reader", "readCandidate", "(I)V"⟩, 7), (⟨"SignedCross", "isPerson", "(I)Z"⟩, 10), (⟨"SignedCross", "isPaper", "(I)Z"⟩, 10), (⟨"SignedCross", "isCandidate", "(I)Z"⟩, 10), (⟨"SignedCross", "passYears", "(LSignedCross$State;I)V"⟩, 10), (⟨"SignedCross", "aged", "(IIZ)I"⟩, 10), (⟨"SignedCross", "shakeOnce", "()V"⟩, 10)]
theorem lw_r1 : ∀ q ∈ lw_privs_1, lw_okq q := List.forall_mem_cons.mpr ⟨lw_p0, List.forall_mem_cons.mpr ⟨lw_p1, List.forall_mem_cons.mpr ⟨lw_p2, List.forall_mem_cons.mpr ⟨lw_p3, List.forall_mem_cons.mpr ⟨lw_p4, List.forall_mem_cons.mpr ⟨lw_p5, List.forall_mem_cons.mpr ⟨lw_p6, List.forall_mem_cons.mpr ⟨lw_p7, List.forall_mem_cons.mpr ⟨lw_p8, List.forall_mem_cons.mpr ⟨lw_p9, List.forall_mem_cons.mpr ⟨lw_p10, List.forall_mem_cons.mpr ⟨lw_p11, List.forall_mem_cons.mpr ⟨lw_p12, List.forall_mem_cons.mpr ⟨lw_p13, List.forall_mem_cons.mpr ⟨lw_p14, List.forall_mem_cons.mpr ⟨lw_p15, fun _ h => absurd h List.not_mem_nil⟩⟩⟩⟩⟩⟩⟩⟩⟩⟩⟩⟩⟩⟩⟩⟩
theorem lw_p16 : lw_okq (⟨"SignedCross", "draw", "(I)I"⟩, 10) := ⟨⟨by decide +kernel, by decide +kernel⟩, List.mem_of_getElem? (i := 13) (by decide +kernel), List.mem_of_getElem? (i := 411) (by decide +kernel), List.mem_of_getElem? (i := 412) (by decide +kernel)⟩
theorem lw_p17 : lw_okq (⟨"SignedCross", "passSet", "(I)I"⟩, 10) := ⟨⟨by decide +kernel, by decide +kernel⟩, List.mem_of_getElem? (i := 13) (by decide +kernel), List.mem_of_getElem? (i := 431) (by decide +kernel), List.mem_of_getElem? (i := 432) (by decide +kernel)⟩
theorem lw_p18 : lw_okq (⟨"SignedCross", "passes", "(II)Z"⟩, 10) := ⟨⟨by decide +kernel, by decide +kernel⟩, List.mem_of_getElem? (i := 13) (by decide +kernel), List.mem_of_getElem? (i := 435) (by decide +kernel), List.mem_of_getElem? (i := 436) (by decide +kernel)⟩
theorem lw_p19 : lw_okq (⟨"SignedCross", "weight", "(I)I"⟩, 10) := ⟨⟨by decide +kernel, by decide +kernel⟩, List.mem_of_getElem? (i := 13) (by decide +kernel), List.mem_of_getElem? (i := 446) (by decide +kernel), List.mem_of_getElem? (i := 447) (by decide +kernel)⟩
theorem lw_p20 : lw_okq (⟨"SignedCross", "passCount", "(I)I"⟩, 10) := ⟨⟨by decide +kernel, by decide +kernel⟩, List.mem_of_getElem? (i := 13) (by decide +kernel), List.mem_of_getElem? (i := 450) (by decide +kernel), List.mem_of_getElem? (i := 451) (by decide +kernel)⟩
theorem lw_p21 : lw_okq (⟨"SignedCross", "nextOfTree", "()I"⟩, 10) := ⟨⟨by decide +kernel, by decide +kernel⟩, List.mem_of_getElem? (i := 13) (by decide +kernel), List.mem_of_getElem? (i := 464) (by decide +kernel), List.mem_of_getElem? (i := 465) (by decide +kernel)⟩
theorem lw_p22 : lw_okq (⟨"SignedCross", "joinGroups", "(II)V"⟩, 10) := ⟨⟨by decide +kernel, by decide +kernel⟩, List.mem_of_getElem? (i := 13) (by decide +kernel), List.mem_of_getElem? (i := 468) (by decide +kernel), List.mem_of_getElem? (i := 469) (by decide +kernel)⟩
theorem lw_p23 : lw_okq (⟨"SignedCross", "nearestTo", "(I)I"⟩, 10) := ⟨⟨by decide +kernel, by decide +kernel⟩, List.mem_of_getElem? (i := 13) (by decide +kernel), List.mem_of_getElem? (i := 476) (by decide +kernel), List.mem_of_getElem? (i := 477) (by decide +kernel)⟩
theorem lw_p24 : lw_okq (⟨"SignedCross", "allToldApart", "(I)Z"⟩, 10) := ⟨⟨by decide +kernel, by decide +kernel⟩, List.mem_of_getElem? (i := 13) (by decide +kernel), List.mem_of_getElem? (i := 490) (by decide +kernel), List.mem_of_getElem? (i := 491) (by decide +kernel)⟩
theorem lw_p25 : lw_okq (⟨"SignedCross", "toldApart", "(LSignedCross$State;II)Z"⟩, 10) := ⟨⟨by decide +kernel, by decide +kernel⟩, List.mem_of_getElem? (i := 13) (by decide +kernel), List.mem_of_getElem? (i := 494) (by decide +kernel), List.mem_of_getElem? (i := 495) (by decide +kernel)⟩
theorem lw_p26 : lw_okq (⟨"SignedCross", "choice", "(I)I"⟩, 10) := ⟨⟨by decide +kernel, by decide +kernel⟩, List.mem_of_getElem? (i := 13) (by decide +kernel), List.mem_of_getElem? (i := 526) (by decide +kernel), List.mem_of_getElem? (i := 527) (by decide +kernel)⟩
theorem lw_p27 : lw_okq (⟨"SignedCross", "greatestAlike", "(II)I"⟩, 10) := ⟨⟨by decide +kernel, by decide +kernel⟩, List.mem_of_getElem? (i := 13) (by decide +kernel), List.mem_of_getElem? (i := 555) (by decide +kernel), List.mem_of_getElem? (i := 556) (by decide +kernel)⟩
theorem lw_p28 : lw_okq (⟨"SignedCrossModel", "here", "()I"⟩, 32) := ⟨⟨by decide +kernel, by decide +kernel⟩, List.mem_of_getElem? (i := 590) (by decide +kernel), List.mem_of_getElem? (i := 708) (by decide +kernel), List.mem_of_getElem? (i := 709) (by decide +kernel)⟩
theorem lw_p29 : lw_okq (⟨"SignedCrossModel", "letterAt", "(I)I"⟩, 32) := ⟨⟨by decide +kernel, by decide +kernel⟩, List.mem_of_getElem? (i := 590) (by decide +kernel), List.mem_of_getElem? (i := 712) (by decide +kernel), List.mem_of_getElem? (i := 713) (by decide +kernel)⟩
theorem lw_p30 : lw_okq (⟨"SignedCrossModel", "takesClause", "()Z"⟩, 32) := ⟨⟨by decide +kernel, by decide +kernel⟩, List.mem_of_getElem? (i := 590) (by decide +kernel), List.mem_of_getElem? (i := 716) (by decide +kernel), List.mem_of_getElem? (i := 717) (by decide +kernel)⟩
theorem lw_p31 : lw_okq (⟨"SignedCrossModel", "fails", "(II)Z"⟩, 32) := ⟨⟨by decide +kernel, by decide +kernel⟩, List.mem_of_getElem? (i := 590) (by decide +kernel), List.mem_of_getElem? (i := 720) (by decide +kernel), List.mem_of_getElem? (i := 721) (by decide +kernel)⟩
def lw_privs_2 : List (MethodName × Nat) := [(⟨"SignedCross", "draw", "(I)I"⟩, 10), (⟨"SignedCross", "passSet", "(I)I"⟩, 10), (⟨"SignedCross", "passes", "(II)Z"⟩, 10), (⟨"SignedCross", "weight", "(I)I"⟩, 10), (⟨"SignedCross", "passCount", "(I)I"⟩, 10), (⟨"SignedCross", "nextOfTree", "()I"⟩, 10), (⟨"SignedCross", "joinGroups", "(II)V"⟩, 10), (⟨"SignedCross", "nearestTo", "(I)I"⟩, 10), (⟨"SignedCross", "allToldApart", "(I)Z"⟩, 10), (⟨"SignedCross", "toldApart", "(LSignedCross$State;II)Z"⟩, 10), (⟨"SignedCross", "choice", "(I)I"⟩, 10), (⟨"SignedCross", "greatestAlike", "(II)I"⟩, 10), (⟨"SignedCrossModel", "here", "()I"⟩, 32), (⟨"SignedCrossModel", "letterAt", "(I)I"⟩, 32), (⟨"SignedCrossModel", "takesClause", "()Z"⟩, 32), (⟨"SignedCrossModel", "fails", "(II)Z"⟩, 32)]
theorem lw_r2 : ∀ q ∈ lw_privs_2, lw_okq q := List.forall_mem_cons.mpr ⟨lw_p16, List.forall_mem_cons.mpr ⟨lw_p17, List.forall_mem_cons.mpr ⟨lw_p18, List.forall_mem_cons.mpr ⟨lw_p19, List.forall_mem_cons.mpr ⟨lw_p20, List.forall_mem_cons.mpr ⟨lw_p21, List.forall_mem_cons.mpr ⟨lw_p22, List.forall_mem_cons.mpr ⟨lw_p23, List.forall_mem_cons.mpr ⟨lw_p24, List.forall_mem_cons.mpr ⟨lw_p25, List.forall_mem_cons.mpr ⟨lw_p26, List.forall_mem_cons.mpr ⟨lw_p27, List.forall_mem_cons.mpr ⟨lw_p28, List.forall_mem_cons.mpr ⟨lw_p29, List.forall_mem_cons.mpr ⟨lw_p30, List.forall_mem_cons.mpr ⟨lw_p31, fun _ h => absurd h List.not_mem_nil⟩⟩⟩⟩⟩⟩⟩⟩⟩⟩⟩⟩⟩⟩⟩⟩
theorem lw_p32 : lw_okq (⟨"SignedCrossModel", "takesGrand", "()Z"⟩, 32) := ⟨⟨by decide +kernel, by decide +kernel⟩, List.mem_of_getElem? (i := 590) (by decide +kernel), List.mem_of_getElem? (i := 724) (by decide +kernel), List.mem_of_getElem? (i := 725) (by decide +kernel)⟩
theorem lw_p33 : lw_okq (⟨"SignedCrossModel", "takesNumber", "(I)Z"⟩, 32) := ⟨⟨by decide +kernel, by decide +kernel⟩, List.mem_of_getElem? (i := 590) (by decide +kernel), List.mem_of_getElem? (i := 728) (by decide +kernel), List.mem_of_getElem? (i := 729) (by decide +kernel)⟩
theorem lw_p34 : lw_okq (⟨"SignedCrossModel", "takesPerson", "()Z"⟩, 32) := ⟨⟨by decide +kernel, by decide +kernel⟩, List.mem_of_getElem? (i := 590) (by decide +kernel), List.mem_of_getElem? (i := 734) (by decide +kernel), List.mem_of_getElem? (i := 735) (by decide +kernel)⟩
theorem lw_p35 : lw_okq (⟨"SignedCrossModel", "takesPaper", "()Z"⟩, 32) := ⟨⟨by decide +kernel, by decide +kernel⟩, List.mem_of_getElem? (i := 590) (by decide +kernel), List.mem_of_getElem? (i := 738) (by decide +kernel), List.mem_of_getElem? (i := 739) (by decide +kernel)⟩
theorem lw_p36 : lw_okq (⟨"SignedCrossModel", "takesCandidate", "()Z"⟩, 32) := ⟨⟨by decide +kernel, by decide +kernel⟩, List.mem_of_getElem? (i := 590) (by decide +kernel), List.mem_of_getElem? (i := 742) (by decide +kernel), List.mem_of_getElem? (i := 743) (by decide +kernel)⟩
theorem lw_p37 : lw_okq (⟨"SignedCrossModel", "takes", "(I)Z"⟩, 32) := ⟨⟨by decide +kernel, by decide +kernel⟩, List.mem_of_getElem? (i := 590) (by decide +kernel), List.mem_of_getElem? (i := 746) (by decide +kernel), List.mem_of_getElem? (i := 747) (by decide +kernel)⟩
theorem lw_p38 : lw_okq (⟨"SignedCrossModel", "isPerson", "(I)Z"⟩, 32) := ⟨⟨by decide +kernel, by decide +kernel⟩, List.mem_of_getElem? (i := 590) (by decide +kernel), List.mem_of_getElem? (i := 762) (by decide +kernel), List.mem_of_getElem? (i := 763) (by decide +kernel)⟩
theorem lw_p39 : lw_okq (⟨"SignedCrossModel", "isPaper", "(I)Z"⟩, 32) := ⟨⟨by decide +kernel, by decide +kernel⟩, List.mem_of_getElem? (i := 590) (by decide +kernel), List.mem_of_getElem? (i := 780) (by decide +kernel), List.mem_of_getElem? (i := 781) (by decide +kernel)⟩
theorem lw_p40 : lw_okq (⟨"SignedCrossModel", "isCandidate", "(I)Z"⟩, 32) := ⟨⟨by decide +kernel, by decide +kernel⟩, List.mem_of_getElem? (i := 590) (by decide +kernel), List.mem_of_getElem? (i := 788) (by decide +kernel), List.mem_of_getElem? (i := 789) (by decide +kernel)⟩
theorem lw_p41 : lw_okq (⟨"SignedCrossModel", "copy", "(II)V"⟩, 32) := ⟨⟨by decide +kernel, by decide +kernel⟩, List.mem_of_getElem? (i := 590) (by decide +kernel), List.mem_of_getElem? (i := 797) (by decide +kernel), List.mem_of_getElem? (i := 798) (by decide +kernel)⟩
theorem lw_p42 : lw_okq (⟨"SignedCrossModel", "minds", "()V"⟩, 32) := ⟨⟨by decide +kernel, by decide +kernel⟩, List.mem_of_getElem? (i := 590) (by decide +kernel), List.mem_of_getElem? (i := 806) (by decide +kernel), List.mem_of_getElem? (i := 807) (by decide +kernel)⟩
theorem lw_p43 : lw_okq (⟨"SignedCrossModel", "passesYear", "(I)V"⟩, 32) := ⟨⟨by decide +kernel, by decide +kernel⟩, List.mem_of_getElem? (i := 590) (by decide +kernel), List.mem_of_getElem? (i := 810) (by decide +kernel), List.mem_of_getElem? (i := 811) (by decide +kernel)⟩
theorem lw_p44 : lw_okq (⟨"SignedCrossModel", "draw", "(I)I"⟩, 32) := ⟨⟨by decide +kernel, by decide +kernel⟩, List.mem_of_getElem? (i := 590) (by decide +kernel), List.mem_of_getElem? (i := 834) (by decide +kernel), List.mem_of_getElem? (i := 835) (by decide +kernel)⟩
theorem lw_p45 : lw_okq (⟨"SignedCrossModel", "whoseIs", "(I)I"⟩, 32) := ⟨⟨by decide +kernel, by decide +kernel⟩, List.mem_of_getElem? (i := 590) (by decide +kernel), List.mem_of_getElem? (i := 849) (by decide +kernel), List.mem_of_getElem? (i := 850) (by decide +kernel)⟩
theorem lw_p46 : lw_okq (⟨"SignedCrossModel", "passesFor", "(II)Z"⟩, 32) := ⟨⟨by decide +kernel, by decide +kernel⟩, List.mem_of_getElem? (i := 590) (by decide +kernel), List.mem_of_getElem? (i := 853) (by decide +kernel), List.mem_of_getElem? (i := 854) (by decide +kernel)⟩
theorem lw_p47 : lw_okq (⟨"SignedCrossModel", "marksOf", "(I)I"⟩, 32) := ⟨⟨by decide +kernel, by decide +kernel⟩, List.mem_of_getElem? (i := 590) (by decide +kernel), List.mem_of_getElem? (i := 868) (by decide +kernel), List.mem_of_getElem? (i := 869) (by decide +kernel)⟩
def lw_privs_3 : List (MethodName × Nat) := [(⟨"SignedCrossModel", "takesGrand", "()Z"⟩, 32), (⟨"SignedCrossModel", "takesNumber", "(I)Z"⟩, 32), (⟨"SignedCrossModel", "takesPerson", "()Z"⟩, 32), (⟨"SignedCrossModel", "takesPaper", "()Z"⟩, 32), (⟨"SignedCrossModel", "takesCandidate", "()Z"⟩, 32), (⟨"SignedCrossModel", "takes", "(I)Z"⟩, 32), (⟨"SignedCrossModel", "isPerson", "(I)Z"⟩, 32), (⟨"SignedCrossModel", "isPaper", "(I)Z"⟩, 32), (⟨"SignedCrossModel", "isCandidate", "(I)Z"⟩, 32), (⟨"SignedCrossModel", "copy", "(II)V"⟩, 32), (⟨"SignedCrossModel", "minds", "()V"⟩, 32), (⟨"SignedCrossModel", "passesYear", "(I)V"⟩, 32), (⟨"SignedCrossModel", "draw", "(I)I"⟩, 32), (⟨"SignedCrossModel", "whoseIs", "(I)I"⟩, 32), (⟨"SignedCrossModel", "passesFor", "(II)Z"⟩, 32), (⟨"SignedCrossModel", "marksOf", "(I)I"⟩, 32)]
theorem lw_r3 : ∀ q ∈ lw_privs_3, lw_okq q := List.forall_mem_cons.mpr ⟨lw_p32, List.forall_mem_cons.mpr ⟨lw_p33, List.forall_mem_cons.mpr ⟨lw_p34, List.forall_mem_cons.mpr ⟨lw_p35, List.forall_mem_cons.mpr ⟨lw_p36, List.forall_mem_cons.mpr ⟨lw_p37, List.forall_mem_cons.mpr ⟨lw_p38, List.forall_mem_cons.mpr ⟨lw_p39, List.forall_mem_cons.mpr ⟨lw_p40, List.forall_mem_cons.mpr ⟨lw_p41, List.forall_mem_cons.mpr ⟨lw_p42, List.forall_mem_cons.mpr ⟨lw_p43, List.forall_mem_cons.mpr ⟨lw_p44, List.forall_mem_cons.mpr ⟨lw_p45, List.forall_mem_cons.mpr ⟨lw_p46, List.forall_mem_cons.mpr ⟨lw_p47, fun _ h => absurd h List.not_mem_nil⟩⟩⟩⟩⟩⟩⟩⟩⟩⟩⟩⟩⟩⟩⟩⟩
theorem lw_p48 : lw_okq (⟨"SignedCrossModel", "between", "(II)I"⟩, 32) := ⟨⟨by decide +kernel, by decide +kernel⟩, List.mem_of_getElem? (i := 590) (by decide +kernel), List.mem_of_getElem? (i := 881) (by decide +kernel), List.mem_of_getElem? (i := 882) (by decide +kernel)⟩
theorem lw_p49 : lw_okq (⟨"SignedCrossModel", "kinOf", "(I)I"⟩, 32) := ⟨⟨by decide +kernel, by decide +kernel⟩, List.mem_of_getElem? (i := 590) (by decide +kernel), List.mem_of_getElem? (i := 889) (by decide +kernel), List.mem_of_getElem? (i := 890) (by decide +kernel)⟩
theorem lw_p50 : lw_okq (⟨"SignedCrossModel", "areToldApart", "(III)Z"⟩, 32) := ⟨⟨by decide +kernel, by decide +kernel⟩, List.mem_of_getElem? (i := 590) (by decide +kernel), List.mem_of_getElem? (i := 900) (by decide +kernel), List.mem_of_getElem? (i := 901) (by decide +kernel)⟩
theorem lw_p51 : lw_okq (⟨"SignedCrossModel", "voteOf", "(I)I"⟩, 32) := ⟨⟨by decide +kernel, by decide +kernel⟩, List.mem_of_getElem? (i := 590) (by decide +kernel), List.mem_of_getElem? (i := 932) (by decide +kernel), List.mem_of_getElem? (i := 933) (by decide +kernel)⟩
theorem lw_p52 : lw_okq (⟨"SignedCrossModel", "makersOfSeen", "()I"⟩, 32) := ⟨⟨by decide +kernel, by decide +kernel⟩, List.mem_of_getElem? (i := 590) (by decide +kernel), List.mem_of_getElem? (i := 952) (by decide +kernel), List.mem_of_getElem? (i := 953) (by decide +kernel)⟩
def lw_privs_4 : List (MethodName × Nat) := [(⟨"SignedCrossModel", "between", "(II)I"⟩, 32), (⟨"SignedCrossModel", "kinOf", "(I)I"⟩, 32), (⟨"SignedCrossModel", "areToldApart", "(III)Z"⟩, 32), (⟨"SignedCrossModel", "voteOf", "(I)I"⟩, 32), (⟨"SignedCrossModel", "makersOfSeen", "()I"⟩, 32)]
theorem lw_r4 : ∀ q ∈ lw_privs_4, lw_okq q := List.forall_mem_cons.mpr ⟨lw_p48, List.forall_mem_cons.mpr ⟨lw_p49, List.forall_mem_cons.mpr ⟨lw_p50, List.forall_mem_cons.mpr ⟨lw_p51, List.forall_mem_cons.mpr ⟨lw_p52, fun _ h => absurd h List.not_mem_nil⟩⟩⟩⟩⟩
def lw_privs : List (MethodName × Nat) := lw_privs_1 ++ (lw_privs_2 ++ (lw_privs_3 ++ (lw_privs_4)))
def lw_tbl : List Cond := k2_sels lw_privs ++ tables_1
theorem lw_privs_ok : ∀ q ∈ lw_privs, lw_okq q := by
  show ∀ q ∈ lw_privs_1 ++ (lw_privs_2 ++ (lw_privs_3 ++ (lw_privs_4))), lw_okq q
  exact List.forall_mem_append.mpr ⟨lw_r1, List.forall_mem_append.mpr ⟨lw_r2, List.forall_mem_append.mpr ⟨lw_r3, lw_r4⟩⟩⟩
-- ===== end of PART A; then your names; then what follows =====
-- names: printed by the kit's program (claim/NAMES.whole.lean.txt), its rows of names alone
def RX0 : String := "SignedCross$Clan"
def TX0 : u_T := fun k => match k with
  | 0 => ("SignedCross$Clan", "there", "Z", false)
  | 1 => ("SignedCross$Clan", "grandfather", "I", false)
  | 2 => ("SignedCross$Clan", "persons", "I", false)
  | 3 => ("SignedCross$Clan", "slips", "[I", true)
  | 4 => ("SignedCross$Clan", "drifts", "[I", true)
  | 5 => ("SignedCross$Clan", "candidates", "I", false)
  | _ => ("SignedCross$Clan", "squares", "[I", true)
def tyX0 : Nat → FieldType := fun k => match k with
  | 0 => .boolean
  | 1 => .int
  | 2 => .int
  | 3 => .array .int
  | 4 => .array .int
  | 5 => .int
  | _ => .array .int
abbrev wsX00 : List Cond := u_ws RX0 TX0 7
theorem nmX0 : ∀ a, a < 7 → ∀ b, b < 7 → a ≠ b → (TX0 a).2.1 ≠ (TX0 b).2.1 := by decide +kernel
theorem tyX0_ok : ∀ k, k < 7 → parseFieldDescriptor (TX0 k).2.2.1 = some (tyX0 k) := by decide +kernel
abbrev cX0_init : ByteArray := prog_2_method_1_code
def yX0_init : MethodName := ⟨RX0, "<init>", "()V"⟩
abbrev cX0_empty : ByteArray := prog_2_method_2_code
def yX0_empty : MethodName := ⟨RX0, "empty", "()V"⟩
abbrev cX0_takeFrom : ByteArray := prog_2_method_3_code
def yX0_takeFrom : MethodName := ⟨RX0, "takeFrom", "(LSignedCross$Clan;)V"⟩
def RX1 : String := "SignedCross$History"
def TX1 : u_T := fun k => match k with
  | 0 => ("SignedCross$History", "states", "[LSignedCross$State;", true)
  | 1 => ("SignedCross$History", "count", "I", false)
  | _ => ("SignedCross$History", "next", "I", false)
def tyX1 : Nat → FieldType := fun k => match k with
  | 0 => .array (.object "SignedCross$State")
  | 1 => .int
  | _ => .int
abbrev wsX10 : List Cond := u_ws RX1 TX1 3
theorem nmX1 : ∀ a, a < 3 → ∀ b, b < 3 → a ≠ b → (TX1 a).2.1 ≠ (TX1 b).2.1 := by decide +kernel
theorem tyX1_ok : ∀ k, k < 3 → parseFieldDescriptor (TX1 k).2.2.1 = some (tyX1 k) := by decide +kernel
abbrev cX1_init : ByteArray := prog_3_method_1_code
def yX1_init : MethodName := ⟨RX1, "<init>", "()V"⟩
abbrev cX1_push : ByteArray := prog_3_method_2_code
def yX1_push : MethodName := ⟨RX1, "push", "(LSignedCross$State;)V"⟩
abbrev cX1_popInto : ByteArray := prog_3_method_3_code
def yX1_popInto : MethodName := ⟨RX1, "popInto", "(LSignedCross$State;)V"⟩
abbrev cX1_forgetAll : ByteArray := prog_3_method_4_code
def yX1_forgetAll : MethodName := ⟨RX1, "forgetAll", "()V"⟩
def RX2 : String := "SignedCross$Image"
def TX2 : u_T := fun k => match k with
  | 0 => ("SignedCross$Image", "kept", "Z", false)
  | 1 => ("SignedCross$Image", "state", "LSignedCross$State;", true)
  | _ => ("SignedCross$Image", "seedThen", "I", false)
def tyX2 : Nat → FieldType := fun k => match k with
  | 0 => .boolean
  | 1 => .object "SignedCross$State"
  | _ => .int
abbrev wsX20 : List Cond := u_ws RX2 TX2 3
theorem nmX2 : ∀ a, a < 3 → ∀ b, b < 3 → a ≠ b → (TX2 a).2.1 ≠ (TX2 b).2.1 := by decide +kernel
theorem tyX2_ok : ∀ k, k < 3 → parseFieldDescriptor (TX2 k).2.2.1 = some (tyX2 k) := by decide +kernel
abbrev cX2_init : ByteArray := prog_4_method_1_code
def yX2_init : MethodName := ⟨RX2, "<init>", "()V"⟩
def RX3 : String := "SignedCross$Notes"
def TX3 : u_T := fun k => match k with
  | 0 => ("SignedCross$Notes", "seenCount", "I", false)
  | 1 => ("SignedCross$Notes", "seen", "[I", true)
  | 2 => ("SignedCross$Notes", "entryCount", "I", false)
  | 3 => ("SignedCross$Notes", "entryPersons", "[I", true)
  | _ => ("SignedCross$Notes", "entryMarks", "[I", true)
def tyX3 : Nat → FieldType := fun k => match k with
  | 0 => .int
  | 1 => .array .int
  | 2 => .int
  | 3 => .array .int
  | _ => .array .int
abbrev wsX30 : List Cond := u_ws RX3 TX3 5
theorem nmX3 : ∀ a, a < 5 → ∀ b, b < 5 → a ≠ b → (TX3 a).2.1 ≠ (TX3 b).2.1 := by decide +kernel
theorem tyX3_ok : ∀ k, k < 5 → parseFieldDescriptor (TX3 k).2.2.1 = some (tyX3 k) := by decide +kernel
abbrev cX3_init : ByteArray := prog_5_method_1_code
def yX3_init : MethodName := ⟨RX3, "<init>", "()V"⟩
abbrev cX3_addSeen : ByteArray := prog_5_method_2_code
def yX3_addSeen : MethodName := ⟨RX3, "addSeen", "(I)V"⟩
abbrev cX3_addEntry : ByteArray := prog_5_method_3_code
def yX3_addEntry : MethodName := ⟨RX3, "addEntry", "(II)V"⟩
abbrev cX3_clearAll : ByteArray := prog_5_method_4_code
def yX3_clearAll : MethodName := ⟨RX3, "clearAll", "()V"⟩
def RX4 : String := "SignedCross$Reader"
def TX4 : u_T := fun k => match k with
  | 0 => ("SignedCross$Reader", "letters", "[I", true)
  | 1 => ("SignedCross$Reader", "length", "I", false)
  | 2 => ("SignedCross$Reader", "draft", "LSignedCross$Clan;", true)
  | 3 => ("SignedCross$Reader", "start", "LSignedCross$State;", true)
  | 4 => ("SignedCross$Reader", "at", "I", false)
  | 5 => ("SignedCross$Reader", "fault", "I", false)
  | _ => ("SignedCross$Reader", "faultAt", "I", false)
def tyX4 : Nat → FieldType := fun k => match k with
  | 0 => .array .int
  | 1 => .int
  | 2 => .object "SignedCross$Clan"
  | 3 => .object "SignedCross$State"
  | 4 => .int
  | 5 => .int
  | _ => .int
abbrev wsX40 : List Cond := u_ws RX4 TX4 7
theorem nmX4 : ∀ a, a < 7 → ∀ b, b < 7 → a ≠ b → (TX4 a).2.1 ≠ (TX4 b).2.1 := by decide +kernel
theorem tyX4_ok : ∀ k, k < 7 → parseFieldDescriptor (TX4 k).2.2.1 = some (tyX4 k) := by decide +kernel
abbrev cX4_init : ByteArray := prog_6_method_1_code
def yX4_init : MethodName := ⟨RX4, "<init>", "()V"⟩
abbrev cX4_addLetter : ByteArray := prog_6_method_2_code
def yX4_addLetter : MethodName := ⟨RX4, "addLetter", "(I)V"⟩
abbrev cX4_readAll : ByteArray := prog_6_method_3_code
def yX4_readAll : MethodName := ⟨RX4, "readAll", "()I"⟩
abbrev cX4_readClause : ByteArray := prog_6_method_4_code
def yX4_readClause : MethodName := ⟨RX4, "readClause", "()V"⟩
abbrev cX4_readGrandfather : ByteArray := prog_6_method_5_code
def yX4_readGrandfather : MethodName := ⟨RX4, "readGrandfather", "(I)V"⟩
abbrev cX4_readPerson : ByteArray := prog_6_method_6_code
def yX4_readPerson : MethodName := ⟨RX4, "readPerson", "(I)V"⟩
abbrev cX4_readPaper : ByteArray := prog_6_method_7_code
def yX4_readPaper : MethodName := ⟨RX4, "readPaper", "(I)V"⟩
abbrev cX4_readCandidate : ByteArray := prog_6_method_8_code
def yX4_readCandidate : MethodName := ⟨RX4, "readCandidate", "(I)V"⟩
abbrev cX4_readNumber : ByteArray := prog_6_method_9_code
def yX4_readNumber : MethodName := ⟨RX4, "readNumber", "(I)I"⟩
abbrev cX4_readEnd : ByteArray := prog_6_method_10_code
def yX4_readEnd : MethodName := ⟨RX4, "readEnd", "()V"⟩
abbrev cX4_fail : ByteArray := prog_6_method_11_code
def yX4_fail : MethodName := ⟨RX4, "fail", "(II)V"⟩
abbrev cX4_skipBlanks : ByteArray := prog_6_method_12_code
def yX4_skipBlanks : MethodName := ⟨RX4, "skipBlanks", "()V"⟩
abbrev cX4_letterHere : ByteArray := prog_6_method_13_code
def yX4_letterHere : MethodName := ⟨RX4, "letterHere", "()I"⟩
abbrev cX4_isFigure : ByteArray := prog_6_method_14_code
def yX4_isFigure : MethodName := ⟨RX4, "isFigure", "(I)Z"⟩
def RX5 : String := "SignedCross$State"
def TX5 : u_T := fun k => match k with
  | 0 => ("SignedCross$State", "hands", "[I", true)
  | 1 => ("SignedCross$State", "papers", "I", false)
  | 2 => ("SignedCross$State", "paperMarks", "[I", true)
  | 3 => ("SignedCross$State", "paperNames", "[I", true)
  | _ => ("SignedCross$State", "years", "I", false)
def tyX5 : Nat → FieldType := fun k => match k with
  | 0 => .array .int
  | 1 => .int
  | 2 => .array .int
  | 3 => .array .int
  | _ => .int
abbrev wsX50 : List Cond := u_ws RX5 TX5 5
theorem nmX5 : ∀ a, a < 5 → ∀ b, b < 5 → a ≠ b → (TX5 a).2.1 ≠ (TX5 b).2.1 := by decide +kernel
theorem tyX5_ok : ∀ k, k < 5 → parseFieldDescriptor (TX5 k).2.2.1 = some (tyX5 k) := by decide +kernel
abbrev cX5_init : ByteArray := prog_7_method_1_code
def yX5_init : MethodName := ⟨RX5, "<init>", "()V"⟩
abbrev cX5_empty : ByteArray := prog_7_method_2_code
def yX5_empty : MethodName := ⟨RX5, "empty", "()V"⟩
abbrev cX5_addPaper : ByteArray := prog_7_method_3_code
def yX5_addPaper : MethodName := ⟨RX5, "addPaper", "(II)V"⟩
abbrev cX5_takeFrom : ByteArray := prog_7_method_4_code
def yX5_takeFrom : MethodName := ⟨RX5, "takeFrom", "(LSignedCross$State;)V"⟩
def RX6 : String := "SignedCross"
def TX6 : u_T := fun k => match k with
  | 0 => ("SignedCross", "reader", "LSignedCross$Reader;", true)
  | 1 => ("SignedCross", "clan", "LSignedCross$Clan;", true)
  | 2 => ("SignedCross", "now", "LSignedCross$State;", true)
  | 3 => ("SignedCross", "tried", "LSignedCross$State;", true)
  | 4 => ("SignedCross", "history", "LSignedCross$History;", true)
  | 5 => ("SignedCross", "images", "[LSignedCross$Image;", true)
  | 6 => ("SignedCross", "notes", "LSignedCross$Notes;", true)
  | 7 => ("SignedCross", "groups", "[I", true)
  | 8 => ("SignedCross", "seedNow", "I", false)
  | _ => ("SignedCross", "faultAt", "I", false)
def tyX6 : Nat → FieldType := fun k => match k with
  | 0 => .object "SignedCross$Reader"
  | 1 => .object "SignedCross$Clan"
  | 2 => .object "SignedCross$State"
  | 3 => .object "SignedCross$State"
  | 4 => .object "SignedCross$History"
  | 5 => .array (.object "SignedCross$Image")
  | 6 => .object "SignedCross$Notes"
  | 7 => .array .int
  | 8 => .int
  | _ => .int
abbrev wsX60 : List Cond := u_ws RX6 TX6 10
theorem nmX6 : ∀ a, a < 10 → ∀ b, b < 10 → a ≠ b → (TX6 a).2.1 ≠ (TX6 b).2.1 := by decide +kernel
theorem tyX6_ok : ∀ k, k < 10 → parseFieldDescriptor (TX6 k).2.2.1 = some (tyX6 k) := by decide +kernel
abbrev cX6_init : ByteArray := prog_1_method_1_code
def yX6_init : MethodName := ⟨RX6, "<init>", "()V"⟩
abbrev cX6_feed : ByteArray := prog_1_method_2_code
def yX6_feed : MethodName := ⟨RX6, "feed", "(I)I"⟩
abbrev cX6_clan : ByteArray := prog_1_method_3_code
def yX6_clan : MethodName := ⟨RX6, "clan", "()I"⟩
abbrev cX6_fault : ByteArray := prog_1_method_4_code
def yX6_fault : MethodName := ⟨RX6, "fault", "()I"⟩
abbrev cX6_told : ByteArray := prog_1_method_5_code
def yX6_told : MethodName := ⟨RX6, "told", "(I)I"⟩
abbrev cX6_person : ByteArray := prog_1_method_6_code
def yX6_person : MethodName := ⟨RX6, "person", "(II)I"⟩
abbrev cX6_paper : ByteArray := prog_1_method_7_code
def yX6_paper : MethodName := ⟨RX6, "paper", "(II)I"⟩
abbrev cX6_candidate : ByteArray := prog_1_method_8_code
def yX6_candidate : MethodName := ⟨RX6, "candidate", "(I)I"⟩
abbrev cX6_year : ByteArray := prog_1_method_9_code
def yX6_year : MethodName := ⟨RX6, "year", "(I)I"⟩
abbrev cX6_teach : ByteArray := prog_1_method_10_code
def yX6_teach : MethodName := ⟨RX6, "teach", "(II)I"⟩
abbrev cX6_sign : ByteArray := prog_1_method_11_code
def yX6_sign : MethodName := ⟨RX6, "sign", "(II)I"⟩
abbrev cX6_tearPaper : ByteArray := prog_1_method_12_code
def yX6_tearPaper : MethodName := ⟨RX6, "tearPaper", "()I"⟩
abbrev cX6_drift : ByteArray := prog_1_method_13_code
def yX6_drift : MethodName := ⟨RX6, "drift", "(I)I"⟩
abbrev cX6_undo : ByteArray := prog_1_method_14_code
def yX6_undo : MethodName := ⟨RX6, "undo", "()I"⟩
abbrev cX6_whose : ByteArray := prog_1_method_15_code
def yX6_whose : MethodName := ⟨RX6, "whose", "(I)I"⟩
abbrev cX6_odds : ByteArray := prog_1_method_16_code
def yX6_odds : MethodName := ⟨RX6, "odds", "(II)I"⟩
abbrev cX6_marks : ByteArray := prog_1_method_17_code
def yX6_marks : MethodName := ⟨RX6, "marks", "(I)I"⟩
abbrev cX6_tree : ByteArray := prog_1_method_18_code
def yX6_tree : MethodName := ⟨RX6, "tree", "(I)I"⟩
abbrev cX6_kin : ByteArray := prog_1_method_19_code
def yX6_kin : MethodName := ⟨RX6, "kin", "(I)I"⟩
abbrev cX6_most : ByteArray := prog_1_method_20_code
def yX6_most : MethodName := ⟨RX6, "most", "()I"⟩
abbrev cX6_clash : ByteArray := prog_1_method_21_code
def yX6_clash : MethodName := ⟨RX6, "clash", "()I"⟩
abbrev cX6_forged : ByteArray := prog_1_method_22_code
def yX6_forged : MethodName := ⟨RX6, "forged", "()I"⟩
abbrev cX6_makers : ByteArray := prog_1_method_23_code
def yX6_makers : MethodName := ⟨RX6, "makers", "(I)I"⟩
abbrev cX6_heir : ByteArray := prog_1_method_24_code
def yX6_heir : MethodName := ⟨RX6, "heir", "(I)I"⟩
abbrev cX6_sham : ByteArray := prog_1_method_25_code
def yX6_sham : MethodName := ⟨RX6, "sham", "(I)I"⟩
abbrev cX6_love : ByteArray := prog_1_method_26_code
def yX6_love : MethodName := ⟨RX6, "love", "(I)I"⟩
abbrev cX6_vote : ByteArray := prog_1_method_27_code
def yX6_vote : MethodName := ⟨RX6, "vote", "(I)I"⟩
abbrev cX6_turned : ByteArray := prog_1_method_28_code
def yX6_turned : MethodName := ⟨RX6, "turned", "(II)I"⟩
abbrev cX6_one : ByteArray := prog_1_method_29_code
def yX6_one : MethodName := ⟨RX6, "one", "(II)I"⟩
abbrev cX6_see : ByteArray := prog_1_method_30_code
def yX6_see : MethodName := ⟨RX6, "see", "(I)I"⟩
abbrev cX6_madeBy : ByteArray := prog_1_method_31_code
def yX6_madeBy : MethodName := ⟨RX6, "madeBy", "()I"⟩
abbrev cX6_lookAt : ByteArray := prog_1_method_32_code
def yX6_lookAt : MethodName := ⟨RX6, "lookAt", "()I"⟩
abbrev cX6_write : ByteArray := prog_1_method_33_code
def yX6_write : MethodName := ⟨RX6, "write", "(II)I"⟩
abbrev cX6_tear : ByteArray := prog_1_method_34_code
def yX6_tear : MethodName := ⟨RX6, "tear", "()I"⟩
abbrev cX6_judge : ByteArray := prog_1_method_35_code
def yX6_judge : MethodName := ⟨RX6, "judge", "()I"⟩
abbrev cX6_seed : ByteArray := prog_1_method_36_code
def yX6_seed : MethodName := ⟨RX6, "seed", "(I)I"⟩
abbrev cX6_keep : ByteArray := prog_1_method_37_code
def yX6_keep : MethodName := ⟨RX6, "keep", "(I)I"⟩
abbrev cX6_goBack : ByteArray := prog_1_method_38_code
def yX6_goBack : MethodName := ⟨RX6, "goBack", "(I)I"⟩
abbrev cX6_isPerson : ByteArray := prog_1_method_39_code
def yX6_isPerson : MethodName := ⟨RX6, "isPerson", "(I)Z"⟩
abbrev cX6_isPaper : ByteArray := prog_1_method_40_code
def yX6_isPaper : MethodName := ⟨RX6, "isPaper", "(I)Z"⟩
abbrev cX6_isCandidate : ByteArray := prog_1_method_41_code
def yX6_isCandidate : MethodName := ⟨RX6, "isCandidate", "(I)Z"⟩
abbrev cX6_isImage : ByteArray := prog_1_method_42_code
def yX6_isImage : MethodName := ⟨RX6, "isImage", "(I)Z"⟩
abbrev cX6_isMark : ByteArray := prog_1_method_43_code
def yX6_isMark : MethodName := ⟨RX6, "isMark", "(I)Z"⟩
abbrev cX6_part : ByteArray := prog_1_method_44_code
def yX6_part : MethodName := ⟨RX6, "part", "(II)I"⟩
abbrev cX6_apart : ByteArray := prog_1_method_45_code
def yX6_apart : MethodName := ⟨RX6, "apart", "(II)I"⟩
abbrev cX6_within : ByteArray := prog_1_method_46_code
def yX6_within : MethodName := ⟨RX6, "within", "(III)Z"⟩
abbrev cX6_passes : ByteArray := prog_1_method_47_code
def yX6_passes : MethodName := ⟨RX6, "passes", "(II)Z"⟩
abbrev cX6_passSet : ByteArray := prog_1_method_48_code
def yX6_passSet : MethodName := ⟨RX6, "passSet", "(I)I"⟩
abbrev cX6_passCount : ByteArray := prog_1_method_49_code
def yX6_passCount : MethodName := ⟨RX6, "passCount", "(I)I"⟩
abbrev cX6_weight : ByteArray := prog_1_method_50_code
def yX6_weight : MethodName := ⟨RX6, "weight", "(I)I"⟩
abbrev cX6_toldApart : ByteArray := prog_1_method_51_code
def yX6_toldApart : MethodName := ⟨RX6, "toldApart", "(LSignedCross$State;II)Z"⟩
abbrev cX6_allToldApart : ByteArray := prog_1_method_52_code
def yX6_allToldApart : MethodName := ⟨RX6, "allToldApart", "(I)Z"⟩
abbrev cX6_nearestTo : ByteArray := prog_1_method_53_code
def yX6_nearestTo : MethodName := ⟨RX6, "nearestTo", "(I)I"⟩
abbrev cX6_nextOfTree : ByteArray := prog_1_method_54_code
def yX6_nextOfTree : MethodName := ⟨RX6, "nextOfTree", "()I"⟩
abbrev cX6_joinGroups : ByteArray := prog_1_method_55_code
def yX6_joinGroups : MethodName := ⟨RX6, "joinGroups", "(II)V"⟩
abbrev cX6_choice : ByteArray := prog_1_method_56_code
def yX6_choice : MethodName := ⟨RX6, "choice", "(I)I"⟩
abbrev cX6_greatestAlike : ByteArray := prog_1_method_57_code
def yX6_greatestAlike : MethodName := ⟨RX6, "greatestAlike", "(II)I"⟩
abbrev cX6_passYears : ByteArray := prog_1_method_58_code
def yX6_passYears : MethodName := ⟨RX6, "passYears", "(LSignedCross$State;I)V"⟩
abbrev cX6_aged : ByteArray := prog_1_method_59_code
def yX6_aged : MethodName := ⟨RX6, "aged", "(IIZ)I"⟩
abbrev cX6_shakeOnce : ByteArray := prog_1_method_60_code
def yX6_shakeOnce : MethodName := ⟨RX6, "shakeOnce", "()V"⟩
abbrev cX6_draw : ByteArray := prog_1_method_61_code
def yX6_draw : MethodName := ⟨RX6, "draw", "(I)I"⟩
def RX7 : String := "SignedCrossModel"
def TX7 : u_T := fun k => match k with
  | 0 => ("SignedCrossModel", "w", "[I", true)
  | 1 => ("SignedCrossModel", "isKept", "[Z", true)
  | 2 => ("SignedCrossModel", "undoes", "I", false)
  | 3 => ("SignedCrossModel", "isClan", "Z", false)
  | 4 => ("SignedCrossModel", "grand", "I", false)
  | 5 => ("SignedCrossModel", "persons", "I", false)
  | 6 => ("SignedCrossModel", "slips", "[I", true)
  | 7 => ("SignedCrossModel", "drifts", "[I", true)
  | 8 => ("SignedCrossModel", "candidates", "I", false)
  | 9 => ("SignedCrossModel", "square", "[I", true)
  | 10 => ("SignedCrossModel", "text", "[I", true)
  | 11 => ("SignedCrossModel", "texted", "I", false)
  | 12 => ("SignedCrossModel", "at", "I", false)
  | 13 => ("SignedCrossModel", "start", "I", false)
  | 14 => ("SignedCrossModel", "number", "I", false)
  | 15 => ("SignedCrossModel", "faulty", "I", false)
  | 16 => ("SignedCrossModel", "faultAt", "I", false)
  | 17 => ("SignedCrossModel", "hasClan", "Z", false)
  | 18 => ("SignedCrossModel", "readGrand", "I", false)
  | 19 => ("SignedCrossModel", "readPersons", "I", false)
  | 20 => ("SignedCrossModel", "readPerson", "[I", true)
  | 21 => ("SignedCrossModel", "readPapers", "I", false)
  | 22 => ("SignedCrossModel", "readPaper", "[I", true)
  | 23 => ("SignedCrossModel", "readCandidates", "I", false)
  | 24 => ("SignedCrossModel", "readCandidate", "[I", true)
  | 25 => ("SignedCrossModel", "pairs", "[I", true)
  | 26 => ("SignedCrossModel", "lot", "[I", true)
  | 27 => ("SignedCrossModel", "seen", "I", false)
  | 28 => ("SignedCrossModel", "seenMark", "[I", true)
  | 29 => ("SignedCrossModel", "booked", "I", false)
  | 30 => ("SignedCrossModel", "bookOf", "[I", true)
  | _ => ("SignedCrossModel", "bookMark", "[I", true)
def tyX7 : Nat → FieldType := fun k => match k with
  | 0 => .array .int
  | 1 => .array .boolean
  | 2 => .int
  | 3 => .boolean
  | 4 => .int
  | 5 => .int
  | 6 => .array .int
  | 7 => .array .int
  | 8 => .int
  | 9 => .array .int
  | 10 => .array .int
  | 11 => .int
  | 12 => .int
  | 13 => .int
  | 14 => .int
  | 15 => .int
  | 16 => .int
  | 17 => .boolean
  | 18 => .int
  | 19 => .int
  | 20 => .array .int
  | 21 => .int
  | 22 => .array .int
  | 23 => .int
  | 24 => .array .int
  | 25 => .array .int
  | 26 => .array .int
  | 27 => .int
  | 28 => .array .int
  | 29 => .int
  | 30 => .array .int
  | _ => .array .int
abbrev wsX70 : List Cond := u_ws RX7 TX7 32
theorem nmX7 : ∀ a, a < 32 → ∀ b, b < 32 → a ≠ b → (TX7 a).2.1 ≠ (TX7 b).2.1 := by decide +kernel
theorem tyX7_ok : ∀ k, k < 32 → parseFieldDescriptor (TX7 k).2.2.1 = some (tyX7 k) := by decide +kernel
abbrev cX7_init : ByteArray := prog_9_method_1_code
def yX7_init : MethodName := ⟨RX7, "<init>", "()V"⟩
abbrev cX7_in : ByteArray := prog_9_method_3_code
def yX7_in : MethodName := ⟨RX7, "in", "(JJJ)Z"⟩
abbrev cX7_has : ByteArray := prog_9_method_4_code
def yX7_has : MethodName := ⟨RX7, "has", "(II)Z"⟩
abbrev cX7_ones : ByteArray := prog_9_method_5_code
def yX7_ones : MethodName := ⟨RX7, "ones", "(I)I"⟩
abbrev cX7_copy : ByteArray := prog_9_method_6_code
def yX7_copy : MethodName := ⟨RX7, "copy", "(II)V"⟩
abbrev cX7_isMark : ByteArray := prog_9_method_7_code
def yX7_isMark : MethodName := ⟨RX7, "isMark", "(I)Z"⟩
abbrev cX7_isPerson : ByteArray := prog_9_method_8_code
def yX7_isPerson : MethodName := ⟨RX7, "isPerson", "(I)Z"⟩
abbrev cX7_isPaper : ByteArray := prog_9_method_9_code
def yX7_isPaper : MethodName := ⟨RX7, "isPaper", "(I)Z"⟩
abbrev cX7_isCandidate : ByteArray := prog_9_method_10_code
def yX7_isCandidate : MethodName := ⟨RX7, "isCandidate", "(I)Z"⟩
abbrev cX7_feed : ByteArray := prog_9_method_11_code
def yX7_feed : MethodName := ⟨RX7, "feed", "(I)I"⟩
abbrev cX7_letterAt : ByteArray := prog_9_method_12_code
def yX7_letterAt : MethodName := ⟨RX7, "letterAt", "(I)I"⟩
abbrev cX7_here : ByteArray := prog_9_method_13_code
def yX7_here : MethodName := ⟨RX7, "here", "()I"⟩
abbrev cX7_fails : ByteArray := prog_9_method_14_code
def yX7_fails : MethodName := ⟨RX7, "fails", "(II)Z"⟩
abbrev cX7_takes : ByteArray := prog_9_method_15_code
def yX7_takes : MethodName := ⟨RX7, "takes", "(I)Z"⟩
abbrev cX7_takesNumber : ByteArray := prog_9_method_16_code
def yX7_takesNumber : MethodName := ⟨RX7, "takesNumber", "(I)Z"⟩
abbrev cX7_takesGrand : ByteArray := prog_9_method_17_code
def yX7_takesGrand : MethodName := ⟨RX7, "takesGrand", "()Z"⟩
abbrev cX7_takesPerson : ByteArray := prog_9_method_18_code
def yX7_takesPerson : MethodName := ⟨RX7, "takesPerson", "()Z"⟩
abbrev cX7_takesPaper : ByteArray := prog_9_method_19_code
def yX7_takesPaper : MethodName := ⟨RX7, "takesPaper", "()Z"⟩
abbrev cX7_takesCandidate : ByteArray := prog_9_method_20_code
def yX7_takesCandidate : MethodName := ⟨RX7, "takesCandidate", "()Z"⟩
abbrev cX7_takesClause : ByteArray := prog_9_method_21_code
def yX7_takesClause : MethodName := ⟨RX7, "takesClause", "()Z"⟩
abbrev cX7_clan : ByteArray := prog_9_method_22_code
def yX7_clan : MethodName := ⟨RX7, "clan", "()I"⟩
abbrev cX7_fault : ByteArray := prog_9_method_23_code
def yX7_fault : MethodName := ⟨RX7, "fault", "()I"⟩
abbrev cX7_told : ByteArray := prog_9_method_24_code
def yX7_told : MethodName := ⟨RX7, "told", "(I)I"⟩
abbrev cX7_partOf : ByteArray := prog_9_method_25_code
def yX7_partOf : MethodName := ⟨RX7, "partOf", "(II)I"⟩
abbrev cX7_off : ByteArray := prog_9_method_26_code
def yX7_off : MethodName := ⟨RX7, "off", "(II)I"⟩
abbrev cX7_apart : ByteArray := prog_9_method_27_code
def yX7_apart : MethodName := ⟨RX7, "apart", "(II)I"⟩
abbrev cX7_isNear : ByteArray := prog_9_method_28_code
def yX7_isNear : MethodName := ⟨RX7, "isNear", "(III)Z"⟩
abbrev cX7_passesFor : ByteArray := prog_9_method_29_code
def yX7_passesFor : MethodName := ⟨RX7, "passesFor", "(II)Z"⟩
abbrev cX7_person : ByteArray := prog_9_method_30_code
def yX7_person : MethodName := ⟨RX7, "person", "(II)I"⟩
abbrev cX7_paper : ByteArray := prog_9_method_31_code
def yX7_paper : MethodName := ⟨RX7, "paper", "(II)I"⟩
abbrev cX7_candidate : ByteArray := prog_9_method_32_code
def yX7_candidate : MethodName := ⟨RX7, "candidate", "(I)I"⟩
abbrev cX7_minds : ByteArray := prog_9_method_33_code
def yX7_minds : MethodName := ⟨RX7, "minds", "()V"⟩
abbrev cX7_undo : ByteArray := prog_9_method_34_code
def yX7_undo : MethodName := ⟨RX7, "undo", "()I"⟩
abbrev cX7_passesYear : ByteArray := prog_9_method_35_code
def yX7_passesYear : MethodName := ⟨RX7, "passesYear", "(I)V"⟩
abbrev cX7_year : ByteArray := prog_9_method_36_code
def yX7_year : MethodName := ⟨RX7, "year", "(I)I"⟩
abbrev cX7_teach : ByteArray := prog_9_method_37_code
def yX7_teach : MethodName := ⟨RX7, "teach", "(II)I"⟩
abbrev cX7_sign : ByteArray := prog_9_method_38_code
def yX7_sign : MethodName := ⟨RX7, "sign", "(II)I"⟩
abbrev cX7_tearPaper : ByteArray := prog_9_method_39_code
def yX7_tearPaper : MethodName := ⟨RX7, "tearPaper", "()I"⟩
abbrev cX7_draw : ByteArray := prog_9_method_40_code
def yX7_draw : MethodName := ⟨RX7, "draw", "(I)I"⟩
abbrev cX7_shaken : ByteArray := prog_9_method_41_code
def yX7_shaken : MethodName := ⟨RX7, "shaken", "(IIZ)I"⟩
abbrev cX7_drift : ByteArray := prog_9_method_42_code
def yX7_drift : MethodName := ⟨RX7, "drift", "(I)I"⟩
abbrev cX7_whoseIs : ByteArray := prog_9_method_43_code
def yX7_whoseIs : MethodName := ⟨RX7, "whoseIs", "(I)I"⟩
abbrev cX7_whose : ByteArray := prog_9_method_44_code
def yX7_whose : MethodName := ⟨RX7, "whose", "(I)I"⟩
abbrev cX7_marksOf : ByteArray := prog_9_method_45_code
def yX7_marksOf : MethodName := ⟨RX7, "marksOf", "(I)I"⟩
abbrev cX7_odds : ByteArray := prog_9_method_46_code
def yX7_odds : MethodName := ⟨RX7, "odds", "(II)I"⟩
abbrev cX7_marks : ByteArray := prog_9_method_47_code
def yX7_marks : MethodName := ⟨RX7, "marks", "(I)I"⟩
abbrev cX7_between : ByteArray := prog_9_method_48_code
def yX7_between : MethodName := ⟨RX7, "between", "(II)I"⟩
abbrev cX7_tree : ByteArray := prog_9_method_49_code
def yX7_tree : MethodName := ⟨RX7, "tree", "(I)I"⟩
abbrev cX7_kinOf : ByteArray := prog_9_method_50_code
def yX7_kinOf : MethodName := ⟨RX7, "kinOf", "(I)I"⟩
abbrev cX7_kin : ByteArray := prog_9_method_51_code
def yX7_kin : MethodName := ⟨RX7, "kin", "(I)I"⟩
abbrev cX7_areToldApart : ByteArray := prog_9_method_52_code
def yX7_areToldApart : MethodName := ⟨RX7, "areToldApart", "(III)Z"⟩
abbrev cX7_most : ByteArray := prog_9_method_53_code
def yX7_most : MethodName := ⟨RX7, "most", "()I"⟩
abbrev cX7_clash : ByteArray := prog_9_method_54_code
def yX7_clash : MethodName := ⟨RX7, "clash", "()I"⟩
abbrev cX7_forged : ByteArray := prog_9_method_55_code
def yX7_forged : MethodName := ⟨RX7, "forged", "()I"⟩
abbrev cX7_makers : ByteArray := prog_9_method_56_code
def yX7_makers : MethodName := ⟨RX7, "makers", "(I)I"⟩
abbrev cX7_heir : ByteArray := prog_9_method_57_code
def yX7_heir : MethodName := ⟨RX7, "heir", "(I)I"⟩
abbrev cX7_sham : ByteArray := prog_9_method_58_code
def yX7_sham : MethodName := ⟨RX7, "sham", "(I)I"⟩
abbrev cX7_love : ByteArray := prog_9_method_59_code
def yX7_love : MethodName := ⟨RX7, "love", "(I)I"⟩
abbrev cX7_voteOf : ByteArray := prog_9_method_60_code
def yX7_voteOf : MethodName := ⟨RX7, "voteOf", "(I)I"⟩
abbrev cX7_vote : ByteArray := prog_9_method_61_code
def yX7_vote : MethodName := ⟨RX7, "vote", "(I)I"⟩
abbrev cX7_turned : ByteArray := prog_9_method_62_code
def yX7_turned : MethodName := ⟨RX7, "turned", "(II)I"⟩
abbrev cX7_one : ByteArray := prog_9_method_63_code
def yX7_one : MethodName := ⟨RX7, "one", "(II)I"⟩
abbrev cX7_see : ByteArray := prog_9_method_64_code
def yX7_see : MethodName := ⟨RX7, "see", "(I)I"⟩
abbrev cX7_makersOfSeen : ByteArray := prog_9_method_65_code
def yX7_makersOfSeen : MethodName := ⟨RX7, "makersOfSeen", "()I"⟩
abbrev cX7_madeBy : ByteArray := prog_9_method_66_code
def yX7_madeBy : MethodName := ⟨RX7, "madeBy", "()I"⟩
abbrev cX7_lookAt : ByteArray := prog_9_method_67_code
def yX7_lookAt : MethodName := ⟨RX7, "lookAt", "()I"⟩
abbrev cX7_write : ByteArray := prog_9_method_68_code
def yX7_write : MethodName := ⟨RX7, "write", "(II)I"⟩
abbrev cX7_tear : ByteArray := prog_9_method_69_code
def yX7_tear : MethodName := ⟨RX7, "tear", "()I"⟩
abbrev cX7_judge : ByteArray := prog_9_method_70_code
def yX7_judge : MethodName := ⟨RX7, "judge", "()I"⟩
abbrev cX7_seed : ByteArray := prog_9_method_71_code
def yX7_seed : MethodName := ⟨RX7, "seed", "(I)I"⟩
abbrev cX7_keep : ByteArray := prog_9_method_72_code
def yX7_keep : MethodName := ⟨RX7, "keep", "(I)I"⟩
abbrev cX7_goBack : ByteArray := prog_9_method_73_code
def yX7_goBack : MethodName := ⟨RX7, "goBack", "(I)I"⟩
def RJ6 : String := "java/lang/Integer"
abbrev cJ6_bitCount_0f7a4 : ByteArray := prog_10_method_49_code
def yJ6_bitCount_0f7a4 : MethodName := ⟨RJ6, "bitCount", "(I)I"⟩
def RJ9 : String := "java/lang/Math"
abbrev cJ9_abs_0f7a4 : ByteArray := prog_11_method_59_code
def yJ9_abs_0f7a4 : MethodName := ⟨RJ9, "abs", "(I)I"⟩
abbrev cJ9_max_7cf53 : ByteArray := prog_11_method_65_code
def yJ9_max_7cf53 : MethodName := ⟨RJ9, "max", "(II)I"⟩
abbrev cJ9_min_7cf53 : ByteArray := prog_11_method_69_code
def yJ9_min_7cf53 : MethodName := ⟨RJ9, "min", "(II)I"⟩
def RJ10 : String := "java/lang/System"
def RL : String := "SignedCrossLaw"
abbrev cL_law : ByteArray := code
def yL_law : MethodName := ⟨RL, "law", "([I)Z"⟩
abbrev vwCl : List vw_C := [(RX0, TX0, 7), (RX1, TX1, 3), (RX2, TX2, 3), (RX3, TX3, 5), (RX4, TX4, 7), (RX5, TX5, 5), (RX6, TX6, 10), (RX7, TX7, 32)]
/-- the words of the tables that hold at any later state -/
def jt : List Cond := lw_tbl.filter goodWord
theorem inX0 : ∀ w ∈ wsX00, w ∈ jt := by decide +kernel
theorem inX1 : ∀ w ∈ wsX10, w ∈ jt := by decide +kernel
theorem inX2 : ∀ w ∈ wsX20, w ∈ jt := by decide +kernel
theorem inX3 : ∀ w ∈ wsX30, w ∈ jt := by decide +kernel
theorem inX4 : ∀ w ∈ wsX40, w ∈ jt := by decide +kernel
theorem inX5 : ∀ w ∈ wsX50, w ∈ jt := by decide +kernel
theorem inX6 : ∀ w ∈ wsX60, w ∈ jt := by decide +kernel
theorem inX7 : ∀ w ∈ wsX70, w ∈ jt := by decide +kernel
