section
-- ===== PART A: goes FIRST, ahead of the names: the tables' words, and 'selects' of the private methods out of them =====
/-- a private method of a class that the tables say can be made, by its rows of tables_1 -/
def lw_okq (q : MethodName × Nat) : Prop := (q.1.cls ≠ "java/lang/invoke/MethodHandle" ∧ q.1.cls ≠ "java/lang/invoke/VarHandle") ∧ Cond.instantiable q.1.cls q.2 ∈ tables_1 ∧ Cond.privateMethod q.1 ∈ tables_1 ∧ Cond.instanceMethod q.1 ∈ tables_1
theorem lw_p0 : lw_okq (⟨"SignedCross$Reader", "skipBlanks", "()V"⟩, 7) := ⟨⟨by decide +kernel, by decide +kernel⟩, List.mem_of_getElem? (i := 21) (by decide +kernel), List.mem_of_getElem? (i := 253) (by decide +kernel), List.mem_of_getElem? (i := 254) (by decide +kernel)⟩
theorem lw_p1 : lw_okq (⟨"SignedCross$Reader", "letterHere", "()I"⟩, 7) := ⟨⟨by decide +kernel, by decide +kernel⟩, List.mem_of_getElem? (i := 21) (by decide +kernel), List.mem_of_getElem? (i := 257) (by decide +kernel), List.mem_of_getElem? (i := 258) (by decide +kernel)⟩
theorem lw_p2 : lw_okq (⟨"SignedCross$Reader", "readClause", "()V"⟩, 7) := ⟨⟨by decide +kernel, by decide +kernel⟩, List.mem_of_getElem? (i := 21) (by decide +kernel), List.mem_of_getElem? (i := 261) (by decide +kernel), List.mem_of_getElem? (i := 262) (by decide +kernel)⟩
theorem lw_p3 : lw_okq (⟨"SignedCross$Reader", "fail", "(II)V"⟩, 7) := ⟨⟨by decide +kernel, by decide +kernel⟩, List.mem_of_getElem? (i := 21) (by decide +kernel), List.mem_of_getElem? (i := 265) (by decide +kernel), List.mem_of_getElem? (i := 266) (by decide +kernel)⟩
theorem lw_p4 : lw_okq (⟨"SignedCross$Reader", "readGrandfather", "(I)V"⟩, 7) := ⟨⟨by decide +kernel, by decide +kernel⟩, List.mem_of_getElem? (i := 21) (by decide +kernel), List.mem_of_getElem? (i := 269) (by decide +kernel), List.mem_of_getElem? (i := 270) (by decide +kernel)⟩
theorem lw_p5 : lw_okq (⟨"SignedCross$Reader", "readNumber", "(I)I"⟩, 7) := ⟨⟨by decide +kernel, by decide +kernel⟩, List.mem_of_getElem? (i := 21) (by decide +kernel), List.mem_of_getElem? (i := 273) (by decide +kernel), List.mem_of_getElem? (i := 274) (by decide +kernel)⟩
theorem lw_p6 : lw_okq (⟨"SignedCross$Reader", "readEnd", "()V"⟩, 7) := ⟨⟨by decide +kernel, by decide +kernel⟩, List.mem_of_getElem? (i := 21) (by decide +kernel), List.mem_of_getElem? (i := 280) (by decide +kernel), List.mem_of_getElem? (i := 281) (by decide +kernel)⟩
theorem lw_p7 : lw_okq (⟨"SignedCross$Reader", "readPerson", "(I)V"⟩, 7) := ⟨⟨by decide +kernel, by decide +kernel⟩, List.mem_of_getElem? (i := 21) (by decide +kernel), List.mem_of_getElem? (i := 284) (by decide +kernel), List.mem_of_getElem? (i := 285) (by decide +kernel)⟩
theorem lw_p8 : lw_okq (⟨"SignedCross$Reader", "readPaper", "(I)V"⟩, 7) := ⟨⟨by decide +kernel, by decide +kernel⟩, List.mem_of_getElem? (i := 21) (by decide +kernel), List.mem_of_getElem? (i := 288) (by decide +kernel), List.mem_of_getElem? (i := 289) (by decide +kernel)⟩
theorem lw_p9 : lw_okq (⟨"SignedCross$Reader", "readCandidate", "(I)V"⟩, 7) := ⟨⟨by decide +kernel, by decide +kernel⟩, List.mem_of_getElem? (i := 21) (by decide +kernel), List.mem_of_getElem? (i := 296) (by decide +kernel), List.mem_of_getElem? (i := 297) (by decide +kernel)⟩
theorem lw_p10 : lw_okq (⟨"SignedCross", "isPerson", "(I)Z"⟩, 10) := ⟨⟨by decide +kernel, by decide +kernel⟩, List.mem_of_getElem? (i := 13) (by decide +kernel), List.mem_of_getElem? (i := 332) (by decide +kernel), List.mem_of_getElem? (i := 333) (by decide +kernel)⟩
theorem lw_p11 : lw_okq (⟨"SignedCross", "isPaper", "(I)Z"⟩, 10) := ⟨⟨by decide +kernel, by decide +kernel⟩, List.mem_of_getElem? (i := 13) (by decide +kernel), List.mem_of_getElem? (i := 347) (by decide +kernel), List.mem_of_getElem? (i := 348) (by decide +kernel)⟩
theorem lw_p12 : lw_okq (⟨"SignedCross", "isCandidate", "(I)Z"⟩, 10) := ⟨⟨by decide +kernel, by decide +kernel⟩, List.mem_of_getElem? (i := 13) (by decide +kernel), List.mem_of_getElem? (i := 355) (by decide +kernel), List.mem_of_getElem? (i := 356) (by decide +kernel)⟩
theorem lw_p13 : lw_okq (⟨"SignedCross", "passYears", "(LSignedCross$State;I)V"⟩, 10) := ⟨⟨by decide +kernel, by decide +kernel⟩, List.mem_of_getElem? (i := 13) (by decide +kernel), List.mem_of_getElem? (i := 372) (by decide +kernel), List.mem_of_getElem? (i := 373) (by decide +kernel)⟩
theorem lw_p14 : lw_okq (⟨"SignedCross", "aged", "(IIZ)I"⟩, 10) := ⟨⟨by decide +kernel, by decide +kernel⟩, List.mem_of_getElem? (i := 13) (by decide +kernel), List.mem_of_getElem? (i := 376) (by decide +kernel), List.mem_of_getElem? (i := 377) (by decide +kernel)⟩
theorem lw_p15 : lw_okq (⟨"SignedCross", "shakeOnce", "()V"⟩, 10) := ⟨⟨by decide +kernel, by decide +kernel⟩, List.mem_of_getElem? (i := 13) (by decide +kernel), List.mem_of_getElem? (i := 407) (by decide +kernel), List.mem_of_getElem? (i := 408) (by decide +kernel)⟩
def lw_privs_1 : List (MethodName × Nat) := [(⟨"SignedCross$Reader", "skipBlanks", "()V"⟩, 7), (⟨"SignedCross$Reader", "letterHere", "()I"⟩, 7), (⟨"SignedCross$Reader", "readClause", "()V"⟩, 7), (⟨"SignedCross$Reader", "fail", "(II)V"⟩, 7), (⟨"SignedCross$Reader", "readGrandfather", "(I)V"⟩, 7), (⟨"SignedCross$Reader", "readNumber", "(I)I"⟩, 7), (⟨"SignedCross$Reader", "readEnd", "()V"⟩, 7), (⟨"SignedCross$Reader", "readPerson", "(I)V"⟩, 7), (⟨"SignedCross$Reader", "readPaper", "(I)V"⟩, 7), (⟨"SignedCross$Reader", "readCandidate", "(I)V"⟩, 7), (⟨"SignedCross", "isPerson", "(I)Z"⟩, 10), (⟨"SignedCross", "isPaper", "(I)Z"⟩, 10), (⟨"SignedCross", "isCandidate", "(I)Z"⟩, 10), (⟨"SignedCross", "passYears", "(LSignedCross$State;I)V"⟩, 10), (⟨"SignedCross", "aged", "(IIZ)I"⟩, 10), (⟨"SignedCross", "shakeOnce", "()V"⟩, 10)]
theorem lw_r1 : ∀ q ∈ lw_privs_1, lw_okq q := List.forall_mem_cons.mpr ⟨lw_p0, List.forall_mem_cons.mpr ⟨lw_p1, List.forall_mem_cons.mpr ⟨lw_p2, List.forall_mem_cons.mpr ⟨lw_p3, List.forall_mem_cons.mpr ⟨lw_p4, List.forall_mem_cons.mpr ⟨lw_p5, List.forall_mem_cons.mpr ⟨lw_p6, List.forall_mem_cons.mpr ⟨lw_p7, List.forall_mem_cons.mpr ⟨lw_p8, List.forall_mem_cons.mpr ⟨lw_p9, List.forall_mem_cons.mpr ⟨lw_p10, List.forall_mem_cons.mpr ⟨lw_p11, List.forall_mem_cons.mpr ⟨lw_p12, List.forall_mem_cons.mpr ⟨lw_p13, List.forall_mem_cons.mpr ⟨lw_p14, List.forall_mem_cons.mpr ⟨lw_p15, fun _ h => absurd h List.not_mem_nil⟩⟩⟩⟩⟩⟩⟩⟩⟩⟩⟩⟩⟩⟩⟩⟩
theorem lw_p16 : lw_okq (⟨"SignedCross", "draw", "(I)I"⟩, 10) := ⟨⟨by decide +kernel, by decide +kernel⟩, List.mem_of_getElem? (i := 13) (by decide +kernel), List.mem_of_getElem? (i := 411) (by decide +kernel), List.mem_of_getElem? (i := 412) (by decide +kernel)⟩
theorem lw_p17 : lw_okq (⟨"SignedCross", "passSet", "(I)I"⟩, 10) := ⟨⟨by decide +kernel, by decide +kernel⟩, List.mem_of_getElem? (i := 13) (by decide +kernel), List.mem_of_getElem? (i := 431) (by decide +kernel), List.mem_of_getElem? (i := 432) (by decide +kernel)⟩
theorem lw_p18 : lw_okq (⟨"SignedCross", "passes", "(II)Z"⟩, 10) := ⟨⟨by decide +kernel, by decide +kernel⟩, List.mem_of_getElem? (i := 13) (by decide +kernel), List.mem_of_getElem? (i := 435) (by decide +kernel), List.mem_of_getElem? (i := 436) (by decide +kernel)⟩
theorem lw_p19 : lw_okq (⟨"SignedCross", "weight", "(I)I"⟩, 10) := ⟨⟨by decide +kernel, by decide +kernel⟩, List.mem_of_getElem? (i := 13) (by decide +kernel), List.mem_of_getElem? (i := 446) (by decide +kernel), List.mem_of_getElem? (i := 447) (by decide +kernel)⟩
theorem lw_p20 : lw_okq (⟨"SignedCross", "passCount", "(I)I"⟩, 10) := ⟨⟨by decide +kernel, by decide +kernel⟩, List.mem_of_getElem? (i := 13) (by decide +kernel), List.mem_of_getElem? (i := 450) (by decide +kernel), List.mem_of_getElem? (i := 451) (by decide +kernel)⟩
theorem lw_p21 : lw_okq (⟨"SignedCross", "nextOfTree", "()I"⟩, 10) := ⟨⟨by decide +kernel, by decide +kernel⟩, List.mem_of_getElem? (i := 13) (by decide +kernel), List.mem_of_getElem? (i := 464) (by decide +kernel), List.mem_of_getElem? (i := 465) (by decide +kernel)⟩
theorem lw_p22 : lw_okq (⟨"SignedCross", "joinGroups", "(II)V"⟩, 10) := ⟨⟨by decide +kernel, by decide +kernel⟩, List.mem_of_getElem? (i := 13) (by decide +kernel), List.mem_of_getElem? (i := 468) (by decide +kernel), List.mem_of_getElem? (i := 469) (by decide +kernel)⟩
theorem lw_p23 : lw_okq (⟨"SignedCross", "nearestTo", "(I)I"⟩, 10) := ⟨⟨by decide +kernel, by decide +kernel⟩, List.mem_of_getElem? (i := 13) (by decide +kernel), List.mem_of_getElem? (i := 476) (by decide +kernel), List.mem_of_getElem? (i := 477) (by decide +kernel)⟩
theorem lw_p24 : lw_okq (⟨"SignedCross", "allToldApart", "(I)Z"⟩, 10) := ⟨⟨by decide +kernel, by decide +kernel⟩, List.mem_of_getElem? (i := 13) (by decide +kernel), List.mem_of_getElem? (i := 490) (by decide +kernel), List.mem_of_getElem? (i := 491) (by decide +kernel)⟩
theorem lw_p25 : lw_okq (⟨"SignedCross", "toldApart", "(LSignedCross$State;II)Z"⟩, 10) := ⟨⟨by decide +kernel, by decide +kernel⟩, List.mem_of_getElem? (i := 13) (by decide +kernel), List.mem_of_getElem? (i := 494) (by decide +kernel), List.mem_of_getElem? (i := 495) (by decide +kernel)⟩
theorem lw_p26 : lw_okq (⟨"SignedCross", "choice", "(I)I"⟩, 10) := ⟨⟨by decide +kernel, by decide +kernel⟩, List.mem_of_getElem? (i := 13) (by decide +kernel), List.mem_of_getElem? (i := 526) (by decide +kernel), List.mem_of_getElem? (i := 527) (by decide +kernel)⟩
theorem lw_p27 : lw_okq (⟨"SignedCross", "greatestAlike", "(II)I"⟩, 10) := ⟨⟨by decide +kernel, by decide +kernel⟩, List.mem_of_getElem? (i := 13) (by decide +kernel), List.mem_of_getElem? (i := 555) (by decide +kernel), List.mem_of_getElem? (i := 556) (by decide +kernel)⟩
theorem lw_p28 : lw_okq (⟨"SignedCrossModel", "here", "()I"⟩, 32) := ⟨⟨by decide +kernel, by decide +kernel⟩, List.mem_of_getElem? (i := 590) (by decide +kernel), List.mem_of_getElem? (i := 708) (by decide +kernel), List.mem_of_getElem? (i := 709) (by decide +kernel)⟩
theorem lw_p29 : lw_okq (⟨"SignedCrossModel", "letterAt", "(I)I"⟩, 32) := ⟨⟨by decide +kernel, by decide +kernel⟩, List.mem_of_getElem? (i := 590) (by decide +kernel), List.mem_of_getElem? (i := 712) (by decide +kernel), List.mem_of_getElem? (i := 713) (by decide +kernel)⟩
theorem lw_p30 : lw_okq (⟨"SignedCrossModel", "takesClause", "()Z"⟩, 32) := ⟨⟨by decide +kernel, by decide +kernel⟩, List.mem_of_getElem? (i := 590) (by decide +kernel), List.mem_of_getElem? (i := 716) (by decide +kernel), List.mem_of_getElem? (i := 717) (by decide +kernel)⟩
theorem lw_p31 : lw_okq (⟨"SignedCrossModel", "fails", "(II)Z"⟩, 32) := ⟨⟨by decide +kernel, by decide +kernel⟩, List.mem_of_getElem? (i := 590) (by decide +kernel), List.mem_of_getElem? (i := 720) (by decide +kernel), List.mem_of_getElem? (i := 721) (by decide +kernel)⟩
def lw_privs_2 : List (MethodName × Nat) := [(⟨"SignedCross", "draw", "(I)I"⟩, 10), (⟨"SignedCross", "passSet", "(I)I"⟩, 10), (⟨"SignedCross", "passes", "(II)Z"⟩, 10), (⟨"SignedCross", "weight", "(I)I"⟩, 10), (⟨"SignedCross", "passCount", "(I)I"⟩, 10), (⟨"SignedCross", "nextOfTree", "()I"⟩, 10), (⟨"SignedCross", "joinGroups", "(II)V"⟩, 10), (⟨"SignedCross", "nearestTo", "(I)I"⟩, 10), (⟨"SignedCross", "allToldApart", "(I)Z"⟩, 10), (⟨"SignedCross", "toldApart", "(LSignedCross$State;II)Z"⟩, 10), (⟨"SignedCross", "choice", "(I)I"⟩, 10), (⟨"SignedCross", "greatestAlike", "(II)I"⟩, 10), (⟨"SignedCrossModel", "here", "()I"⟩, 32), (⟨"SignedCrossModel", "letterAt", "(I)I"⟩, 32), (⟨"SignedCrossModel", "takesClause", "()Z"⟩, 32), (⟨"SignedCrossModel", "fails", "(II)Z"⟩, 32)]
theorem lw_r2 : ∀ q ∈ lw_privs_2, lw_okq q := List.forall_mem_cons.mpr ⟨lw_p16, List.forall_mem_cons.mpr ⟨lw_p17, List.forall_mem_cons.mpr ⟨lw_p18, List.forall_mem_cons.mpr ⟨lw_p19, List.forall_mem_cons.mpr ⟨lw_p20, List.forall_mem_cons.mpr ⟨lw_p21, List.forall_mem_cons.mpr ⟨lw_p22, List.forall_mem_cons.mpr ⟨lw_p23, List.forall_mem_cons.mpr ⟨lw_p24, List.forall_mem_cons.mpr ⟨lw_p25, List.forall_mem_cons.mpr ⟨lw_p26, List.forall_mem_cons.mpr ⟨lw_p27, List.forall_mem_cons.mpr ⟨lw_p28, List.forall_mem_cons.mpr ⟨lw_p29, List.forall_mem_cons.mpr ⟨lw_p30, List.forall_mem_cons.mpr ⟨lw_p31, fun _ h => absurd h List.not_mem_nil⟩⟩⟩⟩⟩⟩⟩⟩⟩⟩⟩⟩⟩⟩⟩⟩
theorem lw_p32 : lw_okq (⟨"SignedCrossModel", "takesGrand", "()Z"⟩, 32) := ⟨⟨by decide +kernel, by decide +kernel⟩, List.mem_of_getElem? (i := 590) (by decide +kernel), List.mem_of_getElem? (i := 724) (by decide +kernel), List.mem_of_getElem? (i := 725) (by decide +kernel)⟩
theorem lw_p33 : lw_okq (⟨"SignedCrossModel", "takesNumber", "(I)Z"⟩, 32) := ⟨⟨by decide +kernel, by decide +kernel⟩, List.mem_of_getElem? (i := 590) (by decide +kernel), List.mem_of_getElem? (i := 728) (by decide +kernel), List.mem_of_getElem? (i := 729) (by decide +kernel)⟩
theorem lw_p34 : lw_okq (⟨"SignedCrossModel", "takesPerson", "()Z"⟩, 32) := ⟨⟨by decide +kernel, by decide +kernel⟩, List.mem_of_getElem? (i := 590) (by decide +kernel), List.mem_of_getElem? (i := 734) (by decide +kernel), List.mem_of_getElem? (i := 735) (by decide +kernel)⟩
theorem lw_p35 : lw_okq (⟨"SignedCrossModel", "takesPaper", "()Z"⟩, 32) := ⟨⟨by decide +kernel, by decide +kernel⟩, List.mem_of_getElem? (i := 590) (by decide +kernel), List.mem_of_getElem? (i := 738) (by decide +kernel), List.mem_of_getElem? (i := 739) (by decide +kernel)⟩
theorem lw_p36 : lw_okq (⟨"SignedCrossModel", "takesCandidate", "()Z"⟩, 32) := ⟨⟨by decide +kernel, by decide +kernel⟩, List.mem_of_getElem? (i := 590) (by decide +kernel), List.mem_of_getElem? (i := 742) (by decide +kernel), List.mem_of_getElem? (i := 743) (by decide +kernel)⟩
theorem lw_p37 : lw_okq (⟨"SignedCrossModel", "takes", "(I)Z"⟩, 32) := ⟨⟨by decide +kernel, by decide +kernel⟩, List.mem_of_getElem? (i := 590) (by decide +kernel), List.mem_of_getElem? (i := 746) (by decide +kernel), List.mem_of_getElem? (i := 747) (by decide +kernel)⟩
theorem lw_p38 : lw_okq (⟨"SignedCrossModel", "isPerson", "(I)Z"⟩, 32) := ⟨⟨by decide +kernel, by decide +kernel⟩, List.mem_of_getElem? (i := 590) (by decide +kernel), List.mem_of_getElem? (i := 762) (by decide +kernel), List.mem_of_getElem? (i := 763) (by decide +kernel)⟩
theorem lw_p39 : lw_okq (⟨"SignedCrossModel", "isPaper", "(I)Z"⟩, 32) := ⟨⟨by decide +kernel, by decide +kernel⟩, List.mem_of_getElem? (i := 590) (by decide +kernel), List.mem_of_getElem? (i := 780) (by decide +kernel), List.mem_of_getElem? (i := 781) (by decide +kernel)⟩
theorem lw_p40 : lw_okq (⟨"SignedCrossModel", "isCandidate", "(I)Z"⟩, 32) := ⟨⟨by decide +kernel, by decide +kernel⟩, List.mem_of_getElem? (i := 590) (by decide +kernel), List.mem_of_getElem? (i := 788) (by decide +kernel), List.mem_of_getElem? (i := 789) (by decide +kernel)⟩
theorem lw_p41 : lw_okq (⟨"SignedCrossModel", "copy", "(II)V"⟩, 32) := ⟨⟨by decide +kernel, by decide +kernel⟩, List.mem_of_getElem? (i := 590) (by decide +kernel), List.mem_of_getElem? (i := 797) (by decide +kernel), List.mem_of_getElem? (i := 798) (by decide +kernel)⟩
theorem lw_p42 : lw_okq (⟨"SignedCrossModel", "minds", "()V"⟩, 32) := ⟨⟨by decide +kernel, by decide +kernel⟩, List.mem_of_getElem? (i := 590) (by decide +kernel), List.mem_of_getElem? (i := 806) (by decide +kernel), List.mem_of_getElem? (i := 807) (by decide +kernel)⟩
theorem lw_p43 : lw_okq (⟨"SignedCrossModel", "passesYear", "(I)V"⟩, 32) := ⟨⟨by decide +kernel, by decide +kernel⟩, List.mem_of_getElem? (i := 590) (by decide +kernel), List.mem_of_getElem? (i := 810) (by decide +kernel), List.mem_of_getElem? (i := 811) (by decide +kernel)⟩
theorem lw_p44 : lw_okq (⟨"SignedCrossModel", "draw", "(I)I"⟩, 32) := ⟨⟨by decide +kernel, by decide +kernel⟩, List.mem_of_getElem? (i := 590) (by decide +kernel), List.mem_of_getElem? (i := 834) (by decide +kernel), List.mem_of_getElem? (i := 835) (by decide +kernel)⟩
theorem lw_p45 : lw_okq (⟨"SignedCrossModel", "whoseIs", "(I)I"⟩, 32) := ⟨⟨by decide +kernel, by decide +kernel⟩, List.mem_of_getElem? (i := 590) (by decide +kernel), List.mem_of_getElem? (i := 849) (by decide +kernel), List.mem_of_getElem? (i := 850) (by decide +kernel)⟩
theorem lw_p46 : lw_okq (⟨"SignedCrossModel", "passesFor", "(II)Z"⟩, 32) := ⟨⟨by decide +kernel, by decide +kernel⟩, List.mem_of_getElem? (i := 590) (by decide +kernel), List.mem_of_getElem? (i := 853) (by decide +kernel), List.mem_of_getElem? (i := 854) (by decide +kernel)⟩
theorem lw_p47 : lw_okq (⟨"SignedCrossModel", "marksOf", "(I)I"⟩, 32) := ⟨⟨by decide +kernel, by decide +kernel⟩, List.mem_of_getElem? (i := 590) (by decide +kernel), List.mem_of_getElem? (i := 868) (by decide +kernel), List.mem_of_getElem? (i := 869) (by decide +kernel)⟩
def lw_privs_3 : List (MethodName × Nat) := [(⟨"SignedCrossModel", "takesGrand", "()Z"⟩, 32), (⟨"SignedCrossModel", "takesNumber", "(I)Z"⟩, 32), (⟨"SignedCrossModel", "takesPerson", "()Z"⟩, 32), (⟨"SignedCrossModel", "takesPaper", "()Z"⟩, 32), (⟨"SignedCrossModel", "takesCandidate", "()Z"⟩, 32), (⟨"SignedCrossModel", "takes", "(I)Z"⟩, 32), (⟨"SignedCrossModel", "isPerson", "(I)Z"⟩, 32), (⟨"SignedCrossModel", "isPaper", "(I)Z"⟩, 32), (⟨"SignedCrossModel", "isCandidate", "(I)Z"⟩, 32), (⟨"SignedCrossModel", "copy", "(II)V"⟩, 32), (⟨"SignedCrossModel", "minds", "()V"⟩, 32), (⟨"SignedCrossModel", "passesYear", "(I)V"⟩, 32), (⟨"SignedCrossModel", "draw", "(I)I"⟩, 32), (⟨"SignedCrossModel", "whoseIs", "(I)I"⟩, 32), (⟨"SignedCrossModel", "passesFor", "(II)Z"⟩, 32), (⟨"SignedCrossModel", "marksOf", "(I)I"⟩, 32)]
theorem lw_r3 : ∀ q ∈ lw_privs_3, lw_okq q := List.forall_mem_cons.mpr ⟨lw_p32, List.forall_mem_cons.mpr ⟨lw_p33, List.forall_mem_cons.mpr ⟨lw_p34, List.forall_mem_cons.mpr ⟨lw_p35, List.forall_mem_cons.mpr ⟨lw_p36, List.forall_mem_cons.mpr ⟨lw_p37, List.forall_mem_cons.mpr ⟨lw_p38, List.forall_mem_cons.mpr ⟨lw_p39, List.forall_mem_cons.mpr ⟨lw_p40, List.forall_mem_cons.mpr ⟨lw_p41, List.forall_mem_cons.mpr ⟨lw_p42, List.forall_mem_cons.mpr ⟨lw_p43, List.forall_mem_cons.mpr ⟨lw_p44, List.forall_mem_cons.mpr ⟨lw_p45, List.forall_mem_cons.mpr ⟨lw_p46, List.forall_mem_cons.mpr ⟨lw_p47, fun _ h => absurd h List.not_mem_nil⟩⟩⟩⟩⟩⟩⟩⟩⟩⟩⟩⟩⟩⟩⟩⟩
theorem lw_p48 : lw_okq (⟨"SignedCrossModel", "between", "(II)I"⟩, 32) := ⟨⟨by decide +kernel, by decide +kernel⟩, List.mem_of_getElem? (i := 590) (by decide +kernel), List.mem_of_getElem? (i := 881) (by decide +kernel), List.mem_of_getElem? (i := 882) (by decide +kernel)⟩
theorem lw_p49 : lw_okq (⟨"SignedCrossModel", "kinOf", "(I)I"⟩, 32) := ⟨⟨by decide +kernel, by decide +kernel⟩, List.mem_of_getElem? (i := 590) (by decide +kernel), List.mem_of_getElem? (i := 889) (by decide +kernel), List.mem_of_getElem? (i := 890) (by decide +kernel)⟩
theorem lw_p50 : lw_okq (⟨"SignedCrossModel", "areToldApart", "(III)Z"⟩, 32) := ⟨⟨by decide +kernel, by decide +kernel⟩, List.mem_of_getElem? (i := 590) (by decide +kernel), List.mem_of_getElem? (i := 900) (by decide +kernel), List.mem_of_getElem? (i := 901) (by decide +kernel)⟩
theorem lw_p51 : lw_okq (⟨"SignedCrossModel", "voteOf", "(I)I"⟩, 32) := ⟨⟨by decide +kernel, by decide +kernel⟩, List.mem_of_getElem? (i := 590) (by decide +kernel), List.mem_of_getElem? (i := 932) (by decide +kernel), List.mem_of_getElem? (i := 933) (by decide +kernel)⟩
theorem lw_p52 : lw_okq (⟨"SignedCrossModel", "makersOfSeen", "()I"⟩, 32) := ⟨⟨by decide +kernel, by decide +kernel⟩, List.mem_of_getElem? (i := 590) (by decide +kernel), List.mem_of_getElem? (i := 952) (by decide +kernel), List.mem_of_getElem? (i := 953) (by decide +kernel)⟩
def lw_privs_4 : List (MethodName × Nat) := [(⟨"SignedCrossModel", "between", "(II)I"⟩, 32), (⟨"SignedCrossModel", "kinOf", "(I)I"⟩, 32), (⟨"SignedCrossModel", "areToldApart", "(III)Z"⟩, 32), (⟨"SignedCrossModel", "voteOf", "(I)I"⟩, 32), (⟨"SignedCrossModel", "makersOfSeen", "()I"⟩, 32)]
theorem lw_r4 : ∀ q ∈ lw_privs_4, lw_okq q := List.forall_mem_cons.mpr ⟨lw_p48, List.forall_mem_cons.mpr ⟨lw_p49, List.forall_mem_cons.mpr ⟨lw_p50, List.forall_mem_cons.mpr ⟨lw_p51, List.forall_mem_cons.mpr ⟨lw_p52, fun _ h => absurd h List.not_mem_nil⟩⟩⟩⟩⟩
def lw_privs : List (MethodName × Nat) := lw_privs_1 ++ (lw_privs_2 ++ (lw_privs_3 ++ (lw_privs_4)))
def lw_tbl : List Cond := k2_sels lw_privs ++ tables_1
theorem lw_privs_ok : ∀ q ∈ lw_privs, lw_okq q := by
  show ∀ q ∈ lw_privs_1 ++ (lw_privs_2 ++ (lw_privs_3 ++ (lw_privs_4))), lw_okq q
  exact List.forall_mem_append.mpr ⟨lw_r1, List.forall_mem_append.mpr ⟨lw_r2, List.forall_mem_append.mpr ⟨lw_r3, lw_r4⟩⟩⟩
-- ===== end of PART A; then your names; then what follows =====
-- names: printed by the kit's program (claim/NAMES.whole.lean.txt), its rows of names alone
def RX0 : String := "SignedCross$Clan"
def TX0 : u_T := fun k => match k with
  | 0 => ("SignedCross$Clan", "there", "Z", false)
  | 1 => ("SignedCross$Clan", "grandfather", "I", false)
  | 2 => ("SignedCross$Clan", "persons", "I", false)
  | 3 => ("SignedCross$Clan", "slips", "[I", true)
  | 4 => ("SignedCross$Clan", "drifts", "[I", true)
  | 5 => ("SignedCross$Clan", "candidates", "I", false)
  | _ => ("SignedCross$Clan", "squares", "[I", true)
def tyX0 : Nat → FieldType := fun k => match k with
  | 0 => .boolean
  | 1 => .int
  | 2 => .int
  | 3 => .array .int
  | 4 => .array .int
  | 5 => .int
  | _ => .array .int
abbrev wsX00 : List Cond := u_ws RX0 TX0 7
theorem nmX0 : ∀ a, a < 7 → ∀ b, b < 7 → a ≠ b → (TX0 a).2.1 ≠ (TX0 b).2.1 := by decide +kernel
theorem tyX0_ok : ∀ k, k < 7 → parseFieldDescriptor (TX0 k).2.2.1 = some (tyX0 k) := by decide +kernel
abbrev cX0_init : ByteArray := prog_2_method_1_code
def yX0_init : MethodName := ⟨RX0, "<init>", "()V"⟩
abbrev cX0_empty : ByteArray := prog_2_method_2_code
def yX0_empty : MethodName := ⟨RX0, "empty", "()V"⟩
abbrev cX0_takeFrom : ByteArray := prog_2_method_3_code
def yX0_takeFrom : MethodName := ⟨RX0, "takeFrom", "(LSignedCross$Clan;)V"⟩
def RX1 : String := "SignedCross$History"
def TX1 : u_T := fun k => match k with
  | 0 => ("SignedCross$History", "states", "[LSignedCross$State;", true)
  | 1 => ("SignedCross$History", "count", "I", false)
  | _ => ("SignedCross$History", "next", "I", false)
def tyX1 : Nat → FieldType := fun k => match k with
  | 0 => .array (.object "SignedCross$State")
  | 1 => .int
  | _ => .int
abbrev wsX10 : List Cond := u_ws RX1 TX1 3
theorem nmX1 : ∀ a, a < 3 → ∀ b, b < 3 → a ≠ b → (TX1 a).2.1 ≠ (TX1 b).2.1 := by decide +kernel
theorem tyX1_ok : ∀ k, k < 3 → parseFieldDescriptor (TX1 k).2.2.1 = some (tyX1 k) := by decide +kernel
abbrev cX1_init : ByteArray := prog_3_method_1_code
def yX1_init : MethodName := ⟨RX1, "<init>", "()V"⟩
abbrev cX1_push : ByteArray := prog_3_method_2_code
def yX1_push : MethodName := ⟨RX1, "push", "(LSignedCross$State;)V"⟩
abbrev cX1_popInto : ByteArray := prog_3_method_3_code
def yX1_popInto : MethodName := ⟨RX1, "popInto", "(LSignedCross$State;)V"⟩
abbrev cX1_forgetAll : ByteArray := prog_3_method_4_code
def yX1_forgetAll : MethodName := ⟨RX1, "forgetAll", "()V"⟩
def RX2 : String := "SignedCross$Image"
def TX2 : u_T := fun k => match k with
  | 0 => ("SignedCross$Image", "kept", "Z", false)
  | 1 => ("SignedCross$Image", "state", "LSignedCross$State;", true)
  | _ => ("SignedCross$Image", "seedThen", "I", false)
def tyX2 : Nat → FieldType := fun k => match k with
  | 0 => .boolean
  | 1 => .object "SignedCross$State"
  | _ => .int
abbrev wsX20 : List Cond := u_ws RX2 TX2 3
theorem nmX2 : ∀ a, a < 3 → ∀ b, b < 3 → a ≠ b → (TX2 a).2.1 ≠ (TX2 b).2.1 := by decide +kernel
theorem tyX2_ok : ∀ k, k < 3 → parseFieldDescriptor (TX2 k).2.2.1 = some (tyX2 k) := by decide +kernel
abbrev cX2_init : ByteArray := prog_4_method_1_code
def yX2_init : MethodName := ⟨RX2, "<init>", "()V"⟩
def RX3 : String := "SignedCross$Notes"
def TX3 : u_T := fun k => match k with
  | 0 => ("SignedCross$Notes", "seenCount", "I", false)
  | 1 => ("SignedCross$Notes", "seen", "[I", true)
  | 2 => ("SignedCross$Notes", "entryCount", "I", false)
  | 3 => ("SignedCross$Notes", "entryPersons", "[I", true)
  | _ => ("SignedCross$Notes", "entryMarks", "[I", true)
def tyX3 : Nat → FieldType := fun k => match k with
  | 0 => .int
  | 1 => .array .int
  | 2 => .int
  | 3 => .array .int
  | _ => .array .int
abbrev wsX30 : List Cond := u_ws RX3 TX3 5
theorem nmX3 : ∀ a, a < 5 → ∀ b, b < 5 → a ≠ b → (TX3 a).2.1 ≠ (TX3 b).2.1 := by decide +kernel
theorem tyX3_ok : ∀ k, k < 5 → parseFieldDescriptor (TX3 k).2.2.1 = some (tyX3 k) := by decide +kernel
abbrev cX3_init : ByteArray := prog_5_method_1_code
def yX3_init : MethodName := ⟨RX3, "<init>", "()V"⟩
abbrev cX3_addSeen : ByteArray := prog_5_method_2_code
def yX3_addSeen : MethodName := ⟨RX3, "addSeen", "(I)V"⟩
abbrev cX3_addEntry : ByteArray := prog_5_method_3_code
def yX3_addEntry : MethodName := ⟨RX3, "addEntry", "(II)V"⟩
abbrev cX3_clearAll : ByteArray := prog_5_method_4_code
def yX3_clearAll : MethodName := ⟨RX3, "clearAll", "()V"⟩
def RX4 : String := "SignedCross$Reader"
def TX4 : u_T := fun k => match k with
  | 0 => ("SignedCross$Reader", "letters", "[I", true)
  | 1 => ("SignedCross$Reader", "length", "I", false)
  | 2 => ("SignedCross$Reader", "draft", "LSignedCross$Clan;", true)
  | 3 => ("SignedCross$Reader", "start", "LSignedCross$State;", true)
  | 4 => ("SignedCross$Reader", "at", "I", false)
  | 5 => ("SignedCross$Reader", "fault", "I", false)
  | _ => ("SignedCross$Reader", "faultAt", "I", false)
def tyX4 : Nat → FieldType := fun k => match k with
  | 0 => .array .int
  | 1 => .int
  | 2 => .object "SignedCross$Clan"
  | 3 => .object "SignedCross$State"
  | 4 => .int
  | 5 => .int
  | _ => .int
abbrev wsX40 : List Cond := u_ws RX4 TX4 7
theorem nmX4 : ∀ a, a < 7 → ∀ b, b < 7 → a ≠ b → (TX4 a).2.1 ≠ (TX4 b).2.1 := by decide +kernel
theorem tyX4_ok : ∀ k, k < 7 → parseFieldDescriptor (TX4 k).2.2.1 = some (tyX4 k) := by decide +kernel
abbrev cX4_init : ByteArray := prog_6_method_1_code
def yX4_init : MethodName := ⟨RX4, "<init>", "()V"⟩
abbrev cX4_addLetter : ByteArray := prog_6_method_2_code
def yX4_addLetter : MethodName := ⟨RX4, "addLetter", "(I)V"⟩
abbrev cX4_readAll : ByteArray := prog_6_method_3_code
def yX4_readAll : MethodName := ⟨RX4, "readAll", "()I"⟩
abbrev cX4_readClause : ByteArray := prog_6_method_4_code
def yX4_readClause : MethodName := ⟨RX4, "readClause", "()V"⟩
abbrev cX4_readGrandfather : ByteArray := prog_6_method_5_code
def yX4_readGrandfather : MethodName := ⟨RX4, "readGrandfather", "(I)V"⟩
abbrev cX4_readPerson : ByteArray := prog_6_method_6_code
def yX4_readPerson : MethodName := ⟨RX4, "readPerson", "(I)V"⟩
abbrev cX4_readPaper : ByteArray := prog_6_method_7_code
def yX4_readPaper : MethodName := ⟨RX4, "readPaper", "(I)V"⟩
abbrev cX4_readCandidate : ByteArray := prog_6_method_8_code
def yX4_readCandidate : MethodName := ⟨RX4, "readCandidate", "(I)V"⟩
abbrev cX4_readNumber : ByteArray := prog_6_method_9_code
def yX4_readNumber : MethodName := ⟨RX4, "readNumber", "(I)I"⟩
abbrev cX4_readEnd : ByteArray := prog_6_method_10_code
def yX4_readEnd : MethodName := ⟨RX4, "readEnd", "()V"⟩
abbrev cX4_fail : ByteArray := prog_6_method_11_code
def yX4_fail : MethodName := ⟨RX4, "fail", "(II)V"⟩
abbrev cX4_skipBlanks : ByteArray := prog_6_method_12_code
def yX4_skipBlanks : MethodName := ⟨RX4, "skipBlanks", "()V"⟩
abbrev cX4_letterHere : ByteArray := prog_6_method_13_code
def yX4_letterHere : MethodName := ⟨RX4, "letterHere", "()I"⟩
abbrev cX4_isFigure : ByteArray := prog_6_method_14_code
def yX4_isFigure : MethodName := ⟨RX4, "isFigure", "(I)Z"⟩
def RX5 : String := "SignedCross$State"
def TX5 : u_T := fun k => match k with
  | 0 => ("SignedCross$State", "hands", "[I", true)
  | 1 => ("SignedCross$State", "papers", "I", false)
  | 2 => ("SignedCross$State", "paperMarks", "[I", true)
  | 3 => ("SignedCross$State", "paperNames", "[I", true)
  | _ => ("SignedCross$State", "years", "I", false)
def tyX5 : Nat → FieldType := fun k => match k with
  | 0 => .array .int
  | 1 => .int
  | 2 => .array .int
  | 3 => .array .int
  | _ => .int
abbrev wsX50 : List Cond := u_ws RX5 TX5 5
theorem nmX5 : ∀ a, a < 5 → ∀ b, b < 5 → a ≠ b → (TX5 a).2.1 ≠ (TX5 b).2.1 := by decide +kernel
theorem tyX5_ok : ∀ k, k < 5 → parseFieldDescriptor (TX5 k).2.2.1 = some (tyX5 k) := by decide +kernel
abbrev cX5_init : ByteArray := prog_7_method_1_code
def yX5_init : MethodName := ⟨RX5, "<init>", "()V"⟩
abbrev cX5_empty : ByteArray := prog_7_method_2_code
def yX5_empty : MethodName := ⟨RX5, "empty", "()V"⟩
abbrev cX5_addPaper : ByteArray := prog_7_method_3_code
def yX5_addPaper : MethodName := ⟨RX5, "addPaper", "(II)V"⟩
abbrev cX5_takeFrom : ByteArray := prog_7_method_4_code
def yX5_takeFrom : MethodName := ⟨RX5, "takeFrom", "(LSignedCross$State;)V"⟩
def RX6 : String := "SignedCross"
def TX6 : u_T := fun k => match k with
  | 0 => ("SignedCross", "reader", "LSignedCross$Reader;", true)
  | 1 => ("SignedCross", "clan", "LSignedCross$Clan;", true)
  | 2 => ("SignedCross", "now", "LSignedCross$State;", true)
  | 3 => ("SignedCross", "tried", "LSignedCross$State;", true)
  | 4 => ("SignedCross", "history", "LSignedCross$History;", true)
  | 5 => ("SignedCross", "images", "[LSignedCross$Image;", true)
  | 6 => ("SignedCross", "notes", "LSignedCross$Notes;", true)
  | 7 => ("SignedCross", "groups", "[I", true)
  | 8 => ("SignedCross", "seedNow", "I", false)
  | _ => ("SignedCross", "faultAt", "I", false)
def tyX6 : Nat → FieldType := fun k => match k with
  | 0 => .object "SignedCross$Reader"
  | 1 => .object "SignedCross$Clan"
  | 2 => .object "SignedCross$State"
  | 3 => .object "SignedCross$State"
  | 4 => .object "SignedCross$History"
  | 5 => .array (.object "SignedCross$Image")
  | 6 => .object "SignedCross$Notes"
  | 7 => .array .int
  | 8 => .int
  | _ => .int
abbrev wsX60 : List Cond := u_ws RX6 TX6 10
theorem nmX6 : ∀ a, a < 10 → ∀ b, b < 10 → a ≠ b → (TX6 a).2.1 ≠ (TX6 b).2.1 := by decide +kernel
theorem tyX6_ok : ∀ k, k < 10 → parseFieldDescriptor (TX6 k).2.2.1 = some (tyX6 k) := by decide +kernel
abbrev cX6_init : ByteArray := prog_1_method_1_code
def yX6_init : MethodName := ⟨RX6, "<init>", "()V"⟩
abbrev cX6_feed : ByteArray := prog_1_method_2_code
def yX6_feed : MethodName := ⟨RX6, "feed", "(I)I"⟩
abbrev cX6_clan : ByteArray := prog_1_method_3_code
def yX6_clan : MethodName := ⟨RX6, "clan", "()I"⟩
abbrev cX6_fault : ByteArray := prog_1_method_4_code
def yX6_fault : MethodName := ⟨RX6, "fault", "()I"⟩
abbrev cX6_told : ByteArray := prog_1_method_5_code
def yX6_told : MethodName := ⟨RX6, "told", "(I)I"⟩
abbrev cX6_person : ByteArray := prog_1_method_6_code
def yX6_person : MethodName := ⟨RX6, "person", "(II)I"⟩
abbrev cX6_paper : ByteArray := prog_1_method_7_code
def yX6_paper : MethodName := ⟨RX6, "paper", "(II)I"⟩
abbrev cX6_candidate : ByteArray := prog_1_method_8_code
def yX6_candidate : MethodName := ⟨RX6, "candidate", "(I)I"⟩
abbrev cX6_year : ByteArray := prog_1_method_9_code
def yX6_year : MethodName := ⟨RX6, "year", "(I)I"⟩
abbrev cX6_teach : ByteArray := prog_1_method_10_code
def yX6_teach : MethodName := ⟨RX6, "teach", "(II)I"⟩
abbrev cX6_sign : ByteArray := prog_1_method_11_code
def yX6_sign : MethodName := ⟨RX6, "sign", "(II)I"⟩
abbrev cX6_tearPaper : ByteArray := prog_1_method_12_code
def yX6_tearPaper : MethodName := ⟨RX6, "tearPaper", "()I"⟩
abbrev cX6_drift : ByteArray := prog_1_method_13_code
def yX6_drift : MethodName := ⟨RX6, "drift", "(I)I"⟩
abbrev cX6_undo : ByteArray := prog_1_method_14_code
def yX6_undo : MethodName := ⟨RX6, "undo", "()I"⟩
abbrev cX6_whose : ByteArray := prog_1_method_15_code
def yX6_whose : MethodName := ⟨RX6, "whose", "(I)I"⟩
abbrev cX6_odds : ByteArray := prog_1_method_16_code
def yX6_odds : MethodName := ⟨RX6, "odds", "(II)I"⟩
abbrev cX6_marks : ByteArray := prog_1_method_17_code
def yX6_marks : MethodName := ⟨RX6, "marks", "(I)I"⟩
abbrev cX6_tree : ByteArray := prog_1_method_18_code
def yX6_tree : MethodName := ⟨RX6, "tree", "(I)I"⟩
abbrev cX6_kin : ByteArray := prog_1_method_19_code
def yX6_kin : MethodName := ⟨RX6, "kin", "(I)I"⟩
abbrev cX6_most : ByteArray := prog_1_method_20_code
def yX6_most : MethodName := ⟨RX6, "most", "()I"⟩
abbrev cX6_clash : ByteArray := prog_1_method_21_code
def yX6_clash : MethodName := ⟨RX6, "clash", "()I"⟩
abbrev cX6_forged : ByteArray := prog_1_method_22_code
def yX6_forged : MethodName := ⟨RX6, "forged", "()I"⟩
abbrev cX6_makers : ByteArray := prog_1_method_23_code
def yX6_makers : MethodName := ⟨RX6, "makers", "(I)I"⟩
abbrev cX6_heir : ByteArray := prog_1_method_24_code
def yX6_heir : MethodName := ⟨RX6, "heir", "(I)I"⟩
abbrev cX6_sham : ByteArray := prog_1_method_25_code
def yX6_sham : MethodName := ⟨RX6, "sham", "(I)I"⟩
abbrev cX6_love : ByteArray := prog_1_method_26_code
def yX6_love : MethodName := ⟨RX6, "love", "(I)I"⟩
abbrev cX6_vote : ByteArray := prog_1_method_27_code
def yX6_vote : MethodName := ⟨RX6, "vote", "(I)I"⟩
abbrev cX6_turned : ByteArray := prog_1_method_28_code
def yX6_turned : MethodName := ⟨RX6, "turned", "(II)I"⟩
abbrev cX6_one : ByteArray := prog_1_method_29_code
def yX6_one : MethodName := ⟨RX6, "one", "(II)I"⟩
abbrev cX6_see : ByteArray := prog_1_method_30_code
def yX6_see : MethodName := ⟨RX6, "see", "(I)I"⟩
abbrev cX6_madeBy : ByteArray := prog_1_method_31_code
def yX6_madeBy : MethodName := ⟨RX6, "madeBy", "()I"⟩
abbrev cX6_lookAt : ByteArray := prog_1_method_32_code
def yX6_lookAt : MethodName := ⟨RX6, "lookAt", "()I"⟩
abbrev cX6_write : ByteArray := prog_1_method_33_code
def yX6_write : MethodName := ⟨RX6, "write", "(II)I"⟩
abbrev cX6_tear : ByteArray := prog_1_method_34_code
def yX6_tear : MethodName := ⟨RX6, "tear", "()I"⟩
abbrev cX6_judge : ByteArray := prog_1_method_35_code
def yX6_judge : MethodName := ⟨RX6, "judge", "()I"⟩
abbrev cX6_seed : ByteArray := prog_1_method_36_code
def yX6_seed : MethodName := ⟨RX6, "seed", "(I)I"⟩
abbrev cX6_keep : ByteArray := prog_1_method_37_code
def yX6_keep : MethodName := ⟨RX6, "keep", "(I)I"⟩
abbrev cX6_goBack : ByteArray := prog_1_method_38_code
def yX6_goBack : MethodName := ⟨RX6, "goBack", "(I)I"⟩
abbrev cX6_isPerson : ByteArray := prog_1_method_39_code
def yX6_isPerson : MethodName := ⟨RX6, "isPerson", "(I)Z"⟩
abbrev cX6_isPaper : ByteArray := prog_1_method_40_code
def yX6_isPaper : MethodName := ⟨RX6, "isPaper", "(I)Z"⟩
abbrev cX6_isCandidate : ByteArray := prog_1_method_41_code
def yX6_isCandidate : MethodName := ⟨RX6, "isCandidate", "(I)Z"⟩
abbrev cX6_isImage : ByteArray := prog_1_method_42_code
def yX6_isImage : MethodName := ⟨RX6, "isImage", "(I)Z"⟩
abbrev cX6_isMark : ByteArray := prog_1_method_43_code
def yX6_isMark : MethodName := ⟨RX6, "isMark", "(I)Z"⟩
abbrev cX6_part : ByteArray := prog_1_method_44_code
def yX6_part : MethodName := ⟨RX6, "part", "(II)I"⟩
abbrev cX6_apart : ByteArray := prog_1_method_45_code
def yX6_apart : MethodName := ⟨RX6, "apart", "(II)I"⟩
abbrev cX6_within : ByteArray := prog_1_method_46_code
def yX6_within : MethodName := ⟨RX6, "within", "(III)Z"⟩
abbrev cX6_passes : ByteArray := prog_1_method_47_code
def yX6_passes : MethodName := ⟨RX6, "passes", "(II)Z"⟩
abbrev cX6_passSet : ByteArray := prog_1_method_48_code
def yX6_passSet : MethodName := ⟨RX6, "passSet", "(I)I"⟩
abbrev cX6_passCount : ByteArray := prog_1_method_49_code
def yX6_passCount : MethodName := ⟨RX6, "passCount", "(I)I"⟩
abbrev cX6_weight : ByteArray := prog_1_method_50_code
def yX6_weight : MethodName := ⟨RX6, "weight", "(I)I"⟩
abbrev cX6_toldApart : ByteArray := prog_1_method_51_code
def yX6_toldApart : MethodName := ⟨RX6, "toldApart", "(LSignedCross$State;II)Z"⟩
abbrev cX6_allToldApart : ByteArray := prog_1_method_52_code
def yX6_allToldApart : MethodName := ⟨RX6, "allToldApart", "(I)Z"⟩
abbrev cX6_nearestTo : ByteArray := prog_1_method_53_code
def yX6_nearestTo : MethodName := ⟨RX6, "nearestTo", "(I)I"⟩
abbrev cX6_nextOfTree : ByteArray := prog_1_method_54_code
def yX6_nextOfTree : MethodName := ⟨RX6, "nextOfTree", "()I"⟩
abbrev cX6_joinGroups : ByteArray := prog_1_method_55_code
def yX6_joinGroups : MethodName := ⟨RX6, "joinGroups", "(II)V"⟩
abbrev cX6_choice : ByteArray := prog_1_method_56_code
def yX6_choice : MethodName := ⟨RX6, "choice", "(I)I"⟩
abbrev cX6_greatestAlike : ByteArray := prog_1_method_57_code
def yX6_greatestAlike : MethodName := ⟨RX6, "greatestAlike", "(II)I"⟩
abbrev cX6_passYears : ByteArray := prog_1_method_58_code
def yX6_passYears : MethodName := ⟨RX6, "passYears", "(LSignedCross$State;I)V"⟩
abbrev cX6_aged : ByteArray := prog_1_method_59_code
def yX6_aged : MethodName := ⟨RX6, "aged", "(IIZ)I"⟩
abbrev cX6_shakeOnce : ByteArray := prog_1_method_60_code
def yX6_shakeOnce : MethodName := ⟨RX6, "shakeOnce", "()V"⟩
abbrev cX6_draw : ByteArray := prog_1_method_61_code
def yX6_draw : MethodName := ⟨RX6, "draw", "(I)I"⟩
def RX7 : String := "SignedCrossModel"
def TX7 : u_T := fun k => match k with
  | 0 => ("SignedCrossModel", "w", "[I", true)
  | 1 => ("SignedCrossModel", "isKept", "[Z", true)
  | 2 => ("SignedCrossModel", "undoes", "I", false)
  | 3 => ("SignedCrossModel", "isClan", "Z", false)
  | 4 => ("SignedCrossModel", "grand", "I", false)
  | 5 => ("SignedCrossModel", "persons", "I", false)
  | 6 => ("SignedCrossModel", "slips", "[I", true)
  | 7 => ("SignedCrossModel", "drifts", "[I", true)
  | 8 => ("SignedCrossModel", "candidates", "I", false)
  | 9 => ("SignedCrossModel", "square", "[I", true)
  | 10 => ("SignedCrossModel", "text", "[I", true)
  | 11 => ("SignedCrossModel", "texted", "I", false)
  | 12 => ("SignedCrossModel", "at", "I", false)
  | 13 => ("SignedCrossModel", "start", "I", false)
  | 14 => ("SignedCrossModel", "number", "I", false)
  | 15 => ("SignedCrossModel", "faulty", "I", false)
  | 16 => ("SignedCrossModel", "faultAt", "I", false)
  | 17 => ("SignedCrossModel", "hasClan", "Z", false)
  | 18 => ("SignedCrossModel", "readGrand", "I", false)
  | 19 => ("SignedCrossModel", "readPersons", "I", false)
  | 20 => ("SignedCrossModel", "readPerson", "[I", true)
  | 21 => ("SignedCrossModel", "readPapers", "I", false)
  | 22 => ("SignedCrossModel", "readPaper", "[I", true)
  | 23 => ("SignedCrossModel", "readCandidates", "I", false)
  | 24 => ("SignedCrossModel", "readCandidate", "[I", true)
  | 25 => ("SignedCrossModel", "pairs", "[I", true)
  | 26 => ("SignedCrossModel", "lot", "[I", true)
  | 27 => ("SignedCrossModel", "seen", "I", false)
  | 28 => ("SignedCrossModel", "seenMark", "[I", true)
  | 29 => ("SignedCrossModel", "booked", "I", false)
  | 30 => ("SignedCrossModel", "bookOf", "[I", true)
  | _ => ("SignedCrossModel", "bookMark", "[I", true)
def tyX7 : Nat → FieldType := fun k => match k with
  | 0 => .array .int
  | 1 => .array .boolean
  | 2 => .int
  | 3 => .boolean
  | 4 => .int
  | 5 => .int
  | 6 => .array .int
  | 7 => .array .int
  | 8 => .int
  | 9 => .array .int
  | 10 => .array .int
  | 11 => .int
  | 12 => .int
  | 13 => .int
  | 14 => .int
  | 15 => .int
  | 16 => .int
  | 17 => .boolean
  | 18 => .int
  | 19 => .int
  | 20 => .array .int
  | 21 => .int
  | 22 => .array .int
  | 23 => .int
  | 24 => .array .int
  | 25 => .array .int
  | 26 => .array .int
  | 27 => .int
  | 28 => .array .int
  | 29 => .int
  | 30 => .array .int
  | _ => .array .int
abbrev wsX70 : List Cond := u_ws RX7 TX7 32
theorem nmX7 : ∀ a, a < 32 → ∀ b, b < 32 → a ≠ b → (TX7 a).2.1 ≠ (TX7 b).2.1 := by decide +kernel
theorem tyX7_ok : ∀ k, k < 32 → parseFieldDescriptor (TX7 k).2.2.1 = some (tyX7 k) := by decide +kernel
abbrev cX7_init : ByteArray := prog_9_method_1_code
def yX7_init : MethodName := ⟨RX7, "<init>", "()V"⟩
abbrev cX7_in : ByteArray := prog_9_method_3_code
def yX7_in : MethodName := ⟨RX7, "in", "(JJJ)Z"⟩
abbrev cX7_has : ByteArray := prog_9_method_4_code
def yX7_has : MethodName := ⟨RX7, "has", "(II)Z"⟩
abbrev cX7_ones : ByteArray := prog_9_method_5_code
def yX7_ones : MethodName := ⟨RX7, "ones", "(I)I"⟩
abbrev cX7_copy : ByteArray := prog_9_method_6_code
def yX7_copy : MethodName := ⟨RX7, "copy", "(II)V"⟩
abbrev cX7_isMark : ByteArray := prog_9_method_7_code
def yX7_isMark : MethodName := ⟨RX7, "isMark", "(I)Z"⟩
abbrev cX7_isPerson : ByteArray := prog_9_method_8_code
def yX7_isPerson : MethodName := ⟨RX7, "isPerson", "(I)Z"⟩
abbrev cX7_isPaper : ByteArray := prog_9_method_9_code
def yX7_isPaper : MethodName := ⟨RX7, "isPaper", "(I)Z"⟩
abbrev cX7_isCandidate : ByteArray := prog_9_method_10_code
def yX7_isCandidate : MethodName := ⟨RX7, "isCandidate", "(I)Z"⟩
abbrev cX7_feed : ByteArray := prog_9_method_11_code
def yX7_feed : MethodName := ⟨RX7, "feed", "(I)I"⟩
abbrev cX7_letterAt : ByteArray := prog_9_method_12_code
def yX7_letterAt : MethodName := ⟨RX7, "letterAt", "(I)I"⟩
abbrev cX7_here : ByteArray := prog_9_method_13_code
def yX7_here : MethodName := ⟨RX7, "here", "()I"⟩
abbrev cX7_fails : ByteArray := prog_9_method_14_code
def yX7_fails : MethodName := ⟨RX7, "fails", "(II)Z"⟩
abbrev cX7_takes : ByteArray := prog_9_method_15_code
def yX7_takes : MethodName := ⟨RX7, "takes", "(I)Z"⟩
abbrev cX7_takesNumber : ByteArray := prog_9_method_16_code
def yX7_takesNumber : MethodName := ⟨RX7, "takesNumber", "(I)Z"⟩
abbrev cX7_takesGrand : ByteArray := prog_9_method_17_code
def yX7_takesGrand : MethodName := ⟨RX7, "takesGrand", "()Z"⟩
abbrev cX7_takesPerson : ByteArray := prog_9_method_18_code
def yX7_takesPerson : MethodName := ⟨RX7, "takesPerson", "()Z"⟩
abbrev cX7_takesPaper : ByteArray := prog_9_method_19_code
def yX7_takesPaper : MethodName := ⟨RX7, "takesPaper", "()Z"⟩
abbrev cX7_takesCandidate : ByteArray := prog_9_method_20_code
def yX7_takesCandidate : MethodName := ⟨RX7, "takesCandidate", "()Z"⟩
abbrev cX7_takesClause : ByteArray := prog_9_method_21_code
def yX7_takesClause : MethodName := ⟨RX7, "takesClause", "()Z"⟩
abbrev cX7_clan : ByteArray := prog_9_method_22_code
def yX7_clan : MethodName := ⟨RX7, "clan", "()I"⟩
abbrev cX7_fault : ByteArray := prog_9_method_23_code
def yX7_fault : MethodName := ⟨RX7, "fault", "()I"⟩
abbrev cX7_told : ByteArray := prog_9_method_24_code
def yX7_told : MethodName := ⟨RX7, "told", "(I)I"⟩
abbrev cX7_partOf : ByteArray := prog_9_method_25_code
def yX7_partOf : MethodName := ⟨RX7, "partOf", "(II)I"⟩
abbrev cX7_off : ByteArray := prog_9_method_26_code
def yX7_off : MethodName := ⟨RX7, "off", "(II)I"⟩
abbrev cX7_apart : ByteArray := prog_9_method_27_code
def yX7_apart : MethodName := ⟨RX7, "apart", "(II)I"⟩
abbrev cX7_isNear : ByteArray := prog_9_method_28_code
def yX7_isNear : MethodName := ⟨RX7, "isNear", "(III)Z"⟩
abbrev cX7_passesFor : ByteArray := prog_9_method_29_code
def yX7_passesFor : MethodName := ⟨RX7, "passesFor", "(II)Z"⟩
abbrev cX7_person : ByteArray := prog_9_method_30_code
def yX7_person : MethodName := ⟨RX7, "person", "(II)I"⟩
abbrev cX7_paper : ByteArray := prog_9_method_31_code
def yX7_paper : MethodName := ⟨RX7, "paper", "(II)I"⟩
abbrev cX7_candidate : ByteArray := prog_9_method_32_code
def yX7_candidate : MethodName := ⟨RX7, "candidate", "(I)I"⟩
abbrev cX7_minds : ByteArray := prog_9_method_33_code
def yX7_minds : MethodName := ⟨RX7, "minds", "()V"⟩
abbrev cX7_undo : ByteArray := prog_9_method_34_code
def yX7_undo : MethodName := ⟨RX7, "undo", "()I"⟩
abbrev cX7_passesYear : ByteArray := prog_9_method_35_code
def yX7_passesYear : MethodName := ⟨RX7, "passesYear", "(I)V"⟩
abbrev cX7_year : ByteArray := prog_9_method_36_code
def yX7_year : MethodName := ⟨RX7, "year", "(I)I"⟩
abbrev cX7_teach : ByteArray := prog_9_method_37_code
def yX7_teach : MethodName := ⟨RX7, "teach", "(II)I"⟩
abbrev cX7_sign : ByteArray := prog_9_method_38_code
def yX7_sign : MethodName := ⟨RX7, "sign", "(II)I"⟩
abbrev cX7_tearPaper : ByteArray := prog_9_method_39_code
def yX7_tearPaper : MethodName := ⟨RX7, "tearPaper", "()I"⟩
abbrev cX7_draw : ByteArray := prog_9_method_40_code
def yX7_draw : MethodName := ⟨RX7, "draw", "(I)I"⟩
abbrev cX7_shaken : ByteArray := prog_9_method_41_code
def yX7_shaken : MethodName := ⟨RX7, "shaken", "(IIZ)I"⟩
abbrev cX7_drift : ByteArray := prog_9_method_42_code
def yX7_drift : MethodName := ⟨RX7, "drift", "(I)I"⟩
abbrev cX7_whoseIs : ByteArray := prog_9_method_43_code
def yX7_whoseIs : MethodName := ⟨RX7, "whoseIs", "(I)I"⟩
abbrev cX7_whose : ByteArray := prog_9_method_44_code
def yX7_whose : MethodName := ⟨RX7, "whose", "(I)I"⟩
abbrev cX7_marksOf : ByteArray := prog_9_method_45_code
def yX7_marksOf : MethodName := ⟨RX7, "marksOf", "(I)I"⟩
abbrev cX7_odds : ByteArray := prog_9_method_46_code
def yX7_odds : MethodName := ⟨RX7, "odds", "(II)I"⟩
abbrev cX7_marks : ByteArray := prog_9_method_47_code
def yX7_marks : MethodName := ⟨RX7, "marks", "(I)I"⟩
abbrev cX7_between : ByteArray := prog_9_method_48_code
def yX7_between : MethodName := ⟨RX7, "between", "(II)I"⟩
abbrev cX7_tree : ByteArray := prog_9_method_49_code
def yX7_tree : MethodName := ⟨RX7, "tree", "(I)I"⟩
abbrev cX7_kinOf : ByteArray := prog_9_method_50_code
def yX7_kinOf : MethodName := ⟨RX7, "kinOf", "(I)I"⟩
abbrev cX7_kin : ByteArray := prog_9_method_51_code
def yX7_kin : MethodName := ⟨RX7, "kin", "(I)I"⟩
abbrev cX7_areToldApart : ByteArray := prog_9_method_52_code
def yX7_areToldApart : MethodName := ⟨RX7, "areToldApart", "(III)Z"⟩
abbrev cX7_most : ByteArray := prog_9_method_53_code
def yX7_most : MethodName := ⟨RX7, "most", "()I"⟩
abbrev cX7_clash : ByteArray := prog_9_method_54_code
def yX7_clash : MethodName := ⟨RX7, "clash", "()I"⟩
abbrev cX7_forged : ByteArray := prog_9_method_55_code
def yX7_forged : MethodName := ⟨RX7, "forged", "()I"⟩
abbrev cX7_makers : ByteArray := prog_9_method_56_code
def yX7_makers : MethodName := ⟨RX7, "makers", "(I)I"⟩
abbrev cX7_heir : ByteArray := prog_9_method_57_code
def yX7_heir : MethodName := ⟨RX7, "heir", "(I)I"⟩
abbrev cX7_sham : ByteArray := prog_9_method_58_code
def yX7_sham : MethodName := ⟨RX7, "sham", "(I)I"⟩
abbrev cX7_love : ByteArray := prog_9_method_59_code
def yX7_love : MethodName := ⟨RX7, "love", "(I)I"⟩
abbrev cX7_voteOf : ByteArray := prog_9_method_60_code
def yX7_voteOf : MethodName := ⟨RX7, "voteOf", "(I)I"⟩
abbrev cX7_vote : ByteArray := prog_9_method_61_code
def yX7_vote : MethodName := ⟨RX7, "vote", "(I)I"⟩
abbrev cX7_turned : ByteArray := prog_9_method_62_code
def yX7_turned : MethodName := ⟨RX7, "turned", "(II)I"⟩
abbrev cX7_one : ByteArray := prog_9_method_63_code
def yX7_one : MethodName := ⟨RX7, "one", "(II)I"⟩
abbrev cX7_see : ByteArray := prog_9_method_64_code
def yX7_see : MethodName := ⟨RX7, "see", "(I)I"⟩
abbrev cX7_makersOfSeen : ByteArray := prog_9_method_65_code
def yX7_makersOfSeen : MethodName := ⟨RX7, "makersOfSeen", "()I"⟩
abbrev cX7_madeBy : ByteArray := prog_9_method_66_code
def yX7_madeBy : MethodName := ⟨RX7, "madeBy", "()I"⟩
abbrev cX7_lookAt : ByteArray := prog_9_method_67_code
def yX7_lookAt : MethodName := ⟨RX7, "lookAt", "()I"⟩
abbrev cX7_write : ByteArray := prog_9_method_68_code
def yX7_write : MethodName := ⟨RX7, "write", "(II)I"⟩
abbrev cX7_tear : ByteArray := prog_9_method_69_code
def yX7_tear : MethodName := ⟨RX7, "tear", "()I"⟩
abbrev cX7_judge : ByteArray := prog_9_method_70_code
def yX7_judge : MethodName := ⟨RX7, "judge", "()I"⟩
abbrev cX7_seed : ByteArray := prog_9_method_71_code
def yX7_seed : MethodName := ⟨RX7, "seed", "(I)I"⟩
abbrev cX7_keep : ByteArray := prog_9_method_72_code
def yX7_keep : MethodName := ⟨RX7, "keep", "(I)I"⟩
abbrev cX7_goBack : ByteArray := prog_9_method_73_code
def yX7_goBack : MethodName := ⟨RX7, "goBack", "(I)I"⟩
def RJ6 : String := "java/lang/Integer"
abbrev cJ6_bitCount_0f7a4 : ByteArray := prog_10_method_49_code
def yJ6_bitCount_0f7a4 : MethodName := ⟨RJ6, "bitCount", "(I)I"⟩
def RJ9 : String := "java/lang/Math"
abbrev cJ9_abs_0f7a4 : ByteArray := prog_11_method_59_code
def yJ9_abs_0f7a4 : MethodName := ⟨RJ9, "abs", "(I)I"⟩
abbrev cJ9_max_7cf53 : ByteArray := prog_11_method_65_code
def yJ9_max_7cf53 : MethodName := ⟨RJ9, "max", "(II)I"⟩
abbrev cJ9_min_7cf53 : ByteArray := prog_11_method_69_code
def yJ9_min_7cf53 : MethodName := ⟨RJ9, "min", "(II)I"⟩
def RJ10 : String := "java/lang/System"
def RL : String := "SignedCrossLaw"
abbrev cL_law : ByteArray := code
def yL_law : MethodName := ⟨RL, "law", "([I)Z"⟩
abbrev vwCl : List vw_C := [(RX0, TX0, 7), (RX1, TX1, 3), (RX2, TX2, 3), (RX3, TX3, 5), (RX4, TX4, 7), (RX5, TX5, 5), (RX6, TX6, 10), (RX7, TX7, 32)]
/-- the words of the tables that hold at any later state -/
def jt : List Cond := lw_tbl.filter goodWord
theorem inX0 : ∀ w ∈ wsX00, w ∈ jt := by decide +kernel
theorem inX1 : ∀ w ∈ wsX10, w ∈ jt := by decide +kernel
theorem inX2 : ∀ w ∈ wsX20, w ∈ jt := by decide +kernel
theorem inX3 : ∀ w ∈ wsX30, w ∈ jt := by decide +kernel
theorem inX4 : ∀ w ∈ wsX40, w ∈ jt := by decide +kernel
theorem inX5 : ∀ w ∈ wsX50, w ∈ jt := by decide +kernel
theorem inX6 : ∀ w ∈ wsX60, w ∈ jt := by decide +kernel
theorem inX7 : ∀ w ∈ wsX70, w ∈ jt := by decide +kernel
end
section
/-! THE TABLES: classes by number, constants, links, the methods (name, bytes, locals, answer, arguments, class, room), each with its words' places, by program -/
def jcn : Nat → String
  | 0 => RX0
  | 1 => RX1
  | 2 => RX2
  | 3 => RX3
  | 4 => RX4
  | 5 => RX5
  | 6 => RX6
  | 7 => RX7
  | 8 => RJ6
  | _ => RL
def jc (c : Int) : Int32 := match c with
  | .ofNat n => nI n
  | .negSucc n => - nI (n + 1)
def jcl (c : Int) : Int64 := match c with
  | .ofNat n => lN n
  | .negSucc n => - lN (n + 1)
def jat (i : Nat) (w : Cond) : Bool := decide (lw_tbl[i]? = some w) && goodWord w
theorem jat_in {i : Nat} {w : Cond} (h : jat i w = true) : w ∈ jt := by
  simp only [jat, Bool.and_eq_true, decide_eq_true_eq] at h
  exact List.mem_filter.mpr ⟨List.mem_of_getElem? h.1, h.2⟩
def jKi : List (Nat × Nat × Int × Nat) := [(6, 65, -1000000002, 283), (6, 69, -1000000004, 284), (6, 133, -1000000001, 388), (6, 162, -1000000003, 415), (6, 285, 65536, 470), (6, 271, 1000000, 506), (8, 265, 1431655765, 539), (8, 266, 858993459, 540), (8, 267, 252645135, 541), (7, 75, -1000000002, 754), (7, 79, -1000000004, 755), (7, 172, -1000000001, 818), (7, 186, -1000000003, 848), (7, 205, 65536, 893), (7, 227, 1000000, 932)]
def jKj : List (Nat × Nat × Int × Nat) := [(6, 279, 1103515245, 467), (6, 281, 12345, 468), (6, 283, 2147483648, 469), (6, 194, 1000000, 507), (7, 73, 255, 750), (7, 101, 48, 784), (7, 103, 57, 785), (7, 187, 60, 857), (7, 61, 999, 873), (7, 199, 1103515245, 890), (7, 201, 12345, 891), (7, 203, 2147483648, 892), (7, 222, 1000000, 919)]
def jFl : List (Nat × Nat × Nat × Nat × Nat) := [(0, 21, 0, 0, 85), (4, 53, 0, 0, 86), (6, 105, 0, 0, 87), (0, 25, 0, 1, 88), (4, 81, 0, 1, 89), (6, 108, 0, 1, 90), (0, 29, 0, 2, 91), (6, 102, 0, 2, 92), (4, 84, 0, 2, 93), (0, 9, 0, 3, 94), (4, 90, 0, 3, 95), (6, 137, 0, 3, 96), (0, 15, 0, 4, 97), (4, 93, 0, 4, 98), (6, 140, 0, 4, 99), (0, 32, 0, 5, 100), (6, 114, 0, 5, 101), (4, 102, 0, 5, 102), (0, 18, 0, 6, 103), (6, 159, 0, 6, 104), (4, 105, 0, 6, 105), (5, 9, 5, 0, 128), (4, 87, 5, 0, 129), (6, 134, 5, 0, 130), (5, 21, 5, 1, 131), (6, 111, 5, 1, 132), (4, 96, 5, 1, 133), (5, 15, 5, 2, 134), (6, 150, 5, 2, 135), (5, 18, 5, 3, 136), (6, 153, 5, 3, 137), (5, 25, 5, 4, 138), (6, 117, 5, 4, 139), (4, 9, 4, 0, 151), (4, 29, 4, 1, 152), (6, 66, 4, 1, 153), (4, 18, 4, 2, 154), (6, 79, 4, 2, 155), (4, 25, 4, 3, 156), (6, 86, 4, 3, 157), (4, 33, 4, 4, 158), (4, 36, 4, 5, 159), (6, 78, 4, 6, 160), (4, 112, 4, 6, 161), (1, 11, 1, 0, 190), (1, 26, 1, 1, 191), (6, 126, 1, 1, 192), (1, 18, 1, 2, 193), (6, 98, 2, 0, 210), (2, 10, 2, 1, 211), (6, 255, 2, 1, 212), (6, 258, 2, 2, 213), (3, 21, 3, 0, 227), (6, 120, 3, 0, 228), (3, 9, 3, 1, 229), (6, 234, 3, 1, 230), (3, 25, 3, 2, 231), (6, 123, 3, 2, 232), (3, 15, 3, 3, 233), (6, 246, 3, 3, 234), (3, 18, 3, 4, 235), (6, 249, 3, 4, 236), (6, 10, 6, 0, 248), (6, 19, 6, 1, 249), (6, 26, 6, 2, 250), (6, 30, 6, 3, 251), (6, 36, 6, 4, 252), (6, 42, 6, 5, 253), (6, 50, 6, 6, 254), (6, 54, 6, 7, 255), (6, 58, 6, 8, 256), (6, 62, 6, 9, 257), (7, 7, 7, 0, 648), (7, 13, 7, 1, 649), (7, 155, 7, 2, 650), (7, 57, 7, 3, 651), (7, 146, 7, 4, 652), (7, 67, 7, 5, 653), (7, 17, 7, 6, 654), (7, 20, 7, 7, 655), (7, 70, 7, 8, 656), (7, 23, 7, 9, 657), (7, 26, 7, 10, 658), (7, 76, 7, 11, 659), (7, 80, 7, 12, 660), (7, 87, 7, 13, 661), (7, 105, 7, 14, 662), (7, 90, 7, 15, 663), (7, 29, 7, 16, 664), (7, 108, 7, 17, 665), (7, 115, 7, 18, 666), (7, 118, 7, 19, 667), (7, 33, 7, 20, 668), (7, 121, 7, 21, 669), (7, 36, 7, 22, 670), (7, 124, 7, 23, 671), (7, 39, 7, 24, 672), (7, 42, 7, 25, 673), (7, 45, 7, 26, 674), (7, 149, 7, 27, 675), (7, 48, 7, 28, 676), (7, 152, 7, 29, 677), (7, 51, 7, 30, 678), (7, 54, 7, 31, 679)]
def jMl : List (Nat × Nat × Nat × Nat) := [(9, 13, 24, 279), (6, 70, 8, 285), (9, 18, 25, 289), (6, 74, 9, 293), (4, 39, 0, 297), (4, 42, 21, 301), (4, 43, 18, 305), (4, 49, 19, 309), (4, 46, 10, 313), (4, 57, 17, 317), (4, 61, 11, 321), (4, 74, 15, 325), (4, 108, 20, 329), (4, 78, 16, 332), (4, 65, 12, 336), (4, 68, 13, 340), (4, 99, 22, 344), (4, 71, 14, 348), (6, 82, 1, 352), (6, 89, 23, 359), (6, 92, 7, 364), (6, 95, 4, 368), (9, 23, 26, 372), (9, 27, 27, 376), (9, 31, 28, 380), (6, 129, 61, 384), (6, 143, 67, 389), (9, 36, 29, 395), (6, 147, 62, 399), (9, 40, 30, 403), (6, 156, 63, 407), (9, 44, 31, 411), (6, 163, 2, 416), (1, 22, 23, 420), (6, 166, 80, 424), (6, 272, 81, 428), (6, 268, 66, 432), (9, 48, 32, 439), (6, 170, 65, 443), (9, 52, 33, 446), (6, 173, 22, 450), (9, 56, 34, 451), (9, 60, 35, 455), (6, 177, 82, 459), (6, 276, 83, 463), (9, 64, 36, 471), (6, 180, 3, 475), (9, 68, 37, 479), (6, 183, 70, 483), (6, 187, 69, 487), (6, 264, 68, 491), (9, 72, 38, 494), (6, 191, 72, 498), (6, 196, 71, 502), (9, 76, 39, 508), (9, 80, 40, 512), (6, 199, 76, 516), (6, 202, 77, 520), (9, 84, 41, 524), (6, 205, 75, 528), (9, 88, 42, 532), (6, 208, 155, 536), (6, 213, 74, 542), (6, 216, 73, 546), (9, 92, 43, 550), (9, 96, 44, 554), (9, 100, 45, 558), (9, 104, 46, 562), (9, 108, 47, 566), (9, 112, 48, 570), (9, 116, 49, 574), (6, 228, 78, 578), (9, 120, 50, 582), (9, 124, 51, 586), (9, 128, 52, 590), (6, 231, 5, 594), (9, 132, 53, 598), (9, 136, 54, 602), (6, 237, 53, 606), (6, 240, 79, 607), (9, 140, 55, 611), (6, 243, 6, 615), (9, 144, 56, 619), (9, 148, 57, 623), (9, 152, 58, 627), (9, 156, 59, 631), (6, 252, 64, 635), (9, 160, 60, 638), (9, 17, 92, 746), (7, 63, 84, 751), (9, 22, 103, 756), (7, 93, 94, 760), (7, 83, 93, 764), (7, 143, 102, 768), (7, 97, 95, 772), (7, 127, 98, 776), (7, 111, 97, 780), (7, 131, 99, 786), (7, 134, 100, 790), (7, 137, 101, 794), (7, 140, 96, 798), (9, 26, 104, 802), (9, 30, 105, 806), (9, 35, 111, 810), (7, 169, 89, 814), (7, 173, 108, 819), (7, 158, 106, 822), (7, 162, 107, 825), (9, 39, 112, 828), (7, 176, 90, 832), (9, 43, 113, 836), (7, 179, 91, 840), (9, 67, 115, 844), (7, 182, 87, 849), (9, 47, 117, 853), (7, 189, 114, 858), (7, 192, 116, 862), (9, 51, 118, 866), (7, 196, 88, 870), (9, 55, 119, 874), (9, 59, 120, 878), (9, 63, 123, 882), (7, 206, 121, 886), (7, 209, 122, 894), (9, 71, 125, 897), (7, 216, 124, 901), (7, 213, 110, 905), (7, 165, 109, 909), (9, 75, 127, 912), (7, 219, 85, 916), (7, 224, 126, 920), (9, 79, 128, 924), (9, 83, 130, 928), (7, 228, 129, 933), (9, 87, 132, 937), (7, 231, 131, 941), (9, 91, 134, 945), (7, 234, 86, 949), (7, 237, 133, 952), (9, 95, 135, 956), (9, 99, 136, 960), (9, 103, 137, 964), (9, 107, 138, 968), (9, 111, 139, 972), (9, 115, 140, 976), (9, 119, 142, 980), (7, 240, 141, 984), (9, 123, 143, 988), (9, 127, 144, 992), (9, 131, 145, 996), (9, 135, 147, 1000), (7, 243, 146, 1004), (9, 139, 148, 1008), (9, 143, 149, 1012), (9, 147, 150, 1016), (9, 151, 151, 1020), (9, 155, 152, 1024), (9, 159, 153, 1028), (9, 163, 154, 1032)]
def jBl : List (Nat × Nat × Nat × Nat) := [(0, 35, 4, 356), (5, 28, 4, 363), (6, 261, 3, 392), (1, 29, 1, 421), (6, 220, 1, 435), (6, 225, 2, 436)]
abbrev jR : Type := MethodName × ByteArray × Nat × Option FieldType × Nat × Nat × Nat × Nat
def jMt : List jR := [(yX0_empty, cX0_empty, 1, none, 0, 0, 0, 0),
  (yX0_takeFrom, cX0_takeFrom, 2, none, 1, 0, 1, 26),
  (yX1_push, cX1_push, 2, none, 1, 1, 2, 47),
  (yX1_popInto, cX1_popInto, 2, none, 1, 1, 2, 47),
  (yX1_forgetAll, cX1_forgetAll, 1, none, 0, 1, 0, 0),
  (yX3_addSeen, cX3_addSeen, 2, none, 1, 3, 0, 0),
  (yX3_addEntry, cX3_addEntry, 3, none, 2, 3, 0, 0),
  (yX3_clearAll, cX3_clearAll, 1, none, 0, 3, 0, 0),
  (yX4_addLetter, cX4_addLetter, 2, none, 1, 4, 0, 0),
  (yX4_readAll, cX4_readAll, 2, (some .int), 0, 4, 5, 108),
  (yX4_readClause, cX4_readClause, 3, none, 0, 4, 4, 86),
  (yX4_readGrandfather, cX4_readGrandfather, 3, none, 1, 4, 3, 63),
  (yX4_readPerson, cX4_readPerson, 3, none, 1, 4, 3, 63),
  (yX4_readPaper, cX4_readPaper, 4, none, 1, 4, 3, 63),
  (yX4_readCandidate, cX4_readCandidate, 3, none, 1, 4, 3, 63),
  (yX4_readNumber, cX4_readNumber, 4, (some .int), 1, 4, 2, 40),
  (yX4_readEnd, cX4_readEnd, 1, none, 0, 4, 2, 40),
  (yX4_fail, cX4_fail, 3, none, 2, 4, 0, 0),
  (yX4_skipBlanks, cX4_skipBlanks, 1, none, 0, 4, 1, 20),
  (yX4_letterHere, cX4_letterHere, 1, (some .int), 0, 4, 0, 0),
  (yX4_isFigure, cX4_isFigure, 1, (some .boolean), 1, 99, 0, 0),
  (yX5_empty, cX5_empty, 1, none, 0, 5, 0, 0),
  (yX5_addPaper, cX5_addPaper, 3, none, 2, 5, 0, 0),
  (yX5_takeFrom, cX5_takeFrom, 2, none, 1, 5, 1, 26),
  (yX6_feed, cX6_feed, 2, (some .int), 1, 6, 1, 21),
  (yX6_clan, cX6_clan, 3, (some .int), 0, 6, 6, 129),
  (yX6_fault, cX6_fault, 1, (some .int), 0, 6, 0, 0),
  (yX6_told, cX6_told, 2, (some .int), 1, 6, 0, 0),
  (yX6_person, cX6_person, 3, (some .int), 2, 6, 2, 42),
  (yX6_paper, cX6_paper, 3, (some .int), 2, 6, 1, 21),
  (yX6_candidate, cX6_candidate, 2, (some .int), 1, 6, 1, 21),
  (yX6_year, cX6_year, 2, (some .int), 1, 6, 3, 72),
  (yX6_teach, cX6_teach, 4, (some .int), 2, 6, 3, 68),
  (yX6_sign, cX6_sign, 3, (some .int), 2, 6, 3, 68),
  (yX6_tearPaper, cX6_tearPaper, 2, (some .int), 0, 6, 3, 68),
  (yX6_drift, cX6_drift, 4, (some .int), 1, 6, 3, 68),
  (yX6_undo, cX6_undo, 1, (some .int), 0, 6, 3, 68),
  (yX6_whose, cX6_whose, 2, (some .int), 1, 6, 4, 88),
  (yX6_odds, cX6_odds, 6, (some .int), 2, 6, 3, 68),
  (yX6_marks, cX6_marks, 2, (some .int), 1, 6, 2, 46),
  (yX6_tree, cX6_tree, 5, (some .int), 1, 6, 3, 67),
  (yX6_kin, cX6_kin, 2, (some .int), 1, 6, 3, 67),
  (yX6_most, cX6_most, 6, (some .int), 0, 6, 4, 90),
  (yX6_clash, cX6_clash, 3, (some .int), 0, 6, 3, 66),
  (yX6_forged, cX6_forged, 3, (some .int), 0, 6, 3, 65),
  (yX6_makers, cX6_makers, 2, (some .int), 1, 6, 4, 88),
  (yX6_heir, cX6_heir, 6, (some .int), 1, 6, 3, 72),
  (yX6_sham, cX6_sham, 5, (some .int), 1, 6, 2, 42),
  (yX6_love, cX6_love, 5, (some .int), 1, 6, 3, 67),
  (yX6_vote, cX6_vote, 2, (some .int), 1, 6, 3, 67),
  (yX6_turned, cX6_turned, 6, (some .int), 2, 6, 3, 67),
  (yX6_one, cX6_one, 4, (some .int), 2, 6, 3, 72),
  (yX6_see, cX6_see, 2, (some .int), 1, 6, 1, 21),
  (yX6_madeBy, cX6_madeBy, 3, (some .int), 0, 6, 4, 88),
  (yX6_lookAt, cX6_lookAt, 6, (some .int), 0, 6, 5, 110),
  (yX6_write, cX6_write, 3, (some .int), 2, 6, 1, 22),
  (yX6_tear, cX6_tear, 2, (some .int), 0, 6, 1, 20),
  (yX6_judge, cX6_judge, 3, (some .int), 0, 6, 1, 21),
  (yX6_seed, cX6_seed, 3, (some .int), 1, 6, 0, 0),
  (yX6_keep, cX6_keep, 2, (some .int), 1, 6, 2, 47),
  (yX6_goBack, cX6_goBack, 2, (some .int), 1, 6, 2, 47),
  (yX6_isPerson, cX6_isPerson, 2, (some .boolean), 1, 6, 0, 0),
  (yX6_isPaper, cX6_isPaper, 2, (some .boolean), 1, 6, 0, 0),
  (yX6_isCandidate, cX6_isCandidate, 2, (some .boolean), 1, 6, 0, 0),
  (yX6_isImage, cX6_isImage, 1, (some .boolean), 1, 99, 0, 0),
  (yX6_isMark, cX6_isMark, 1, (some .boolean), 1, 99, 0, 0),
  (yX6_part, cX6_part, 2, (some .int), 2, 99, 0, 0),
  (yX6_apart, cX6_apart, 2, (some .int), 2, 99, 1, 21),
  (yX6_within, cX6_within, 3, (some .boolean), 3, 99, 1, 21),
  (yX6_passes, cX6_passes, 3, (some .boolean), 2, 6, 2, 43),
  (yX6_passSet, cX6_passSet, 4, (some .int), 1, 6, 3, 65),
  (yX6_passCount, cX6_passCount, 6, (some .int), 1, 6, 1, 21),
  (yX6_weight, cX6_weight, 3, (some .int), 1, 6, 2, 46),
  (yX6_toldApart, cX6_toldApart, 4, (some .boolean), 3, 6, 2, 43),
  (yX6_allToldApart, cX6_allToldApart, 5, (some .boolean), 1, 6, 3, 66),
  (yX6_nearestTo, cX6_nearestTo, 6, (some .int), 1, 6, 2, 42),
  (yX6_nextOfTree, cX6_nextOfTree, 6, (some .int), 0, 6, 2, 42),
  (yX6_joinGroups, cX6_joinGroups, 6, none, 2, 6, 0, 0),
  (yX6_choice, cX6_choice, 6, (some .int), 1, 6, 2, 42),
  (yX6_greatestAlike, cX6_greatestAlike, 7, (some .int), 2, 6, 1, 21),
  (yX6_passYears, cX6_passYears, 6, none, 2, 6, 2, 47),
  (yX6_aged, cX6_aged, 7, (some .int), 3, 6, 1, 21),
  (yX6_shakeOnce, cX6_shakeOnce, 7, none, 0, 6, 1, 21),
  (yX6_draw, cX6_draw, 2, (some .int), 1, 6, 0, 0),
  (yX7_in, cX7_in, 6, (some .boolean), 3, 99, 0, 0),
  (yX7_has, cX7_has, 2, (some .boolean), 2, 99, 0, 0),
  (yX7_ones, cX7_ones, 3, (some .int), 1, 99, 0, 0),
  (yX7_copy, cX7_copy, 4, none, 2, 7, 0, 0),
  (yX7_isMark, cX7_isMark, 1, (some .boolean), 1, 99, 1, 25),
  (yX7_isPerson, cX7_isPerson, 2, (some .boolean), 1, 7, 1, 25),
  (yX7_isPaper, cX7_isPaper, 2, (some .boolean), 1, 7, 1, 25),
  (yX7_isCandidate, cX7_isCandidate, 2, (some .boolean), 1, 7, 1, 25),
  (yX7_feed, cX7_feed, 2, (some .int), 1, 7, 1, 25),
  (yX7_letterAt, cX7_letterAt, 2, (some .int), 1, 7, 0, 0),
  (yX7_here, cX7_here, 1, (some .int), 0, 7, 1, 21),
  (yX7_fails, cX7_fails, 3, (some .boolean), 2, 7, 0, 0),
  (yX7_takes, cX7_takes, 2, (some .boolean), 1, 7, 2, 41),
  (yX7_takesNumber, cX7_takesNumber, 2, (some .boolean), 1, 7, 2, 41),
  (yX7_takesGrand, cX7_takesGrand, 1, (some .boolean), 0, 7, 3, 62),
  (yX7_takesPerson, cX7_takesPerson, 2, (some .boolean), 0, 7, 3, 62),
  (yX7_takesPaper, cX7_takesPaper, 2, (some .boolean), 0, 7, 3, 62),
  (yX7_takesCandidate, cX7_takesCandidate, 1, (some .boolean), 0, 7, 3, 62),
  (yX7_takesClause, cX7_takesClause, 5, (some .boolean), 0, 7, 4, 83),
  (yX7_clan, cX7_clan, 4, (some .int), 0, 7, 5, 107),
  (yX7_fault, cX7_fault, 1, (some .int), 0, 7, 0, 0),
  (yX7_told, cX7_told, 2, (some .int), 1, 7, 0, 0),
  (yX7_partOf, cX7_partOf, 2, (some .int), 2, 99, 0, 0),
  (yX7_off, cX7_off, 2, (some .int), 2, 99, 0, 0),
  (yX7_apart, cX7_apart, 4, (some .int), 2, 99, 1, 21),
  (yX7_isNear, cX7_isNear, 5, (some .boolean), 3, 99, 1, 21),
  (yX7_passesFor, cX7_passesFor, 3, (some .boolean), 2, 7, 2, 45),
  (yX7_person, cX7_person, 3, (some .int), 2, 7, 2, 46),
  (yX7_paper, cX7_paper, 3, (some .int), 2, 7, 2, 46),
  (yX7_candidate, cX7_candidate, 2, (some .int), 1, 7, 2, 46),
  (yX7_minds, cX7_minds, 2, none, 0, 7, 1, 23),
  (yX7_undo, cX7_undo, 2, (some .int), 0, 7, 1, 23),
  (yX7_passesYear, cX7_passesYear, 8, none, 1, 7, 1, 21),
  (yX7_year, cX7_year, 3, (some .int), 1, 7, 2, 48),
  (yX7_teach, cX7_teach, 4, (some .int), 2, 7, 2, 46),
  (yX7_sign, cX7_sign, 3, (some .int), 2, 7, 2, 46),
  (yX7_tearPaper, cX7_tearPaper, 1, (some .int), 0, 7, 2, 44),
  (yX7_draw, cX7_draw, 2, (some .int), 1, 7, 0, 0),
  (yX7_shaken, cX7_shaken, 5, (some .int), 3, 99, 1, 21),
  (yX7_drift, cX7_drift, 5, (some .int), 1, 7, 2, 45),
  (yX7_whoseIs, cX7_whoseIs, 4, (some .int), 1, 7, 3, 67),
  (yX7_whose, cX7_whose, 2, (some .int), 1, 7, 4, 90),
  (yX7_marksOf, cX7_marksOf, 7, (some .int), 1, 7, 1, 21),
  (yX7_odds, cX7_odds, 7, (some .int), 2, 7, 4, 90),
  (yX7_marks, cX7_marks, 2, (some .int), 1, 7, 2, 47),
  (yX7_between, cX7_between, 3, (some .int), 2, 7, 2, 44),
  (yX7_tree, cX7_tree, 10, (some .int), 1, 7, 3, 66),
  (yX7_kinOf, cX7_kinOf, 4, (some .int), 1, 7, 3, 66),
  (yX7_kin, cX7_kin, 2, (some .int), 1, 7, 4, 89),
  (yX7_areToldApart, cX7_areToldApart, 4, (some .boolean), 3, 7, 2, 45),
  (yX7_most, cX7_most, 6, (some .int), 0, 7, 3, 68),
  (yX7_clash, cX7_clash, 3, (some .int), 0, 7, 3, 68),
  (yX7_forged, cX7_forged, 3, (some .int), 0, 7, 3, 67),
  (yX7_makers, cX7_makers, 2, (some .int), 1, 7, 4, 90),
  (yX7_heir, cX7_heir, 4, (some .int), 1, 7, 2, 48),
  (yX7_sham, cX7_sham, 5, (some .int), 1, 7, 2, 46),
  (yX7_love, cX7_love, 5, (some .int), 1, 7, 4, 89),
  (yX7_voteOf, cX7_voteOf, 4, (some .int), 1, 7, 2, 44),
  (yX7_vote, cX7_vote, 2, (some .int), 1, 7, 3, 67),
  (yX7_turned, cX7_turned, 6, (some .int), 2, 7, 3, 67),
  (yX7_one, cX7_one, 4, (some .int), 2, 7, 3, 68),
  (yX7_see, cX7_see, 2, (some .int), 1, 7, 2, 45),
  (yX7_makersOfSeen, cX7_makersOfSeen, 3, (some .int), 0, 7, 4, 90),
  (yX7_madeBy, cX7_madeBy, 1, (some .int), 0, 7, 5, 112),
  (yX7_lookAt, cX7_lookAt, 9, (some .int), 0, 7, 5, 112),
  (yX7_write, cX7_write, 3, (some .int), 2, 7, 2, 46),
  (yX7_tear, cX7_tear, 2, (some .int), 0, 7, 0, 0),
  (yX7_judge, cX7_judge, 2, (some .int), 0, 7, 0, 0),
  (yX7_seed, cX7_seed, 3, (some .int), 1, 7, 0, 0),
  (yX7_keep, cX7_keep, 2, (some .int), 1, 7, 1, 25),
  (yX7_goBack, cX7_goBack, 2, (some .int), 1, 7, 1, 25),
  (yJ6_bitCount_0f7a4, cJ6_bitCount_0f7a4, 1, (some .int), 1, 99, 0, 0)]
def jMp : List (Nat × Nat × Nat × Nat) := [(300, 56, 298, 299), (355, 56, 353, 354), (419, 58, 417, 418), (478, 58, 476, 477), (371, 58, 369, 370), (597, 60, 595, 596), (618, 60, 616, 617), (367, 60, 365, 366), (288, 55, 286, 287), (296, 55, 294, 295), (316, 55, 315, 2), (324, 55, 323, 4), (339, 55, 338, 7), (343, 55, 342, 8), (351, 55, 350, 9), (328, 55, 327, 5), (335, 55, 334, 6), (320, 55, 319, 3), (308, 55, 307, 0), (312, 55, 311, 1), (331, 55, 330, 0), (304, 57, 302, 303), (347, 57, 345, 346), (362, 57, 360, 361), (282, 54, 280, 281), (292, 54, 290, 291), (375, 54, 373, 374), (379, 54, 377, 378), (383, 54, 381, 382), (398, 54, 396, 397), (406, 54, 404, 405), (414, 54, 412, 413), (442, 54, 440, 441), (449, 54, 447, 448), (454, 54, 452, 453), (458, 54, 456, 457), (474, 54, 472, 473), (482, 54, 480, 481), (497, 54, 495, 496), (511, 54, 509, 510), (515, 54, 513, 514), (527, 54, 525, 526), (535, 54, 533, 534), (553, 54, 551, 552), (557, 54, 555, 556), (561, 54, 559, 560), (565, 54, 563, 564), (569, 54, 567, 568), (573, 54, 571, 572), (577, 54, 575, 576), (585, 54, 583, 584), (589, 54, 587, 588), (593, 54, 591, 592), (601, 54, 599, 600), (605, 54, 603, 604), (614, 54, 612, 613), (622, 54, 620, 621), (626, 54, 624, 625), (630, 54, 628, 629), (634, 54, 632, 633), (641, 54, 639, 640), (387, 54, 386, 10), (402, 54, 401, 11), (410, 54, 409, 12), (637, 54, 636, 0), (445, 54, 444, 0), (434, 54, 433, 0), (391, 54, 390, 0), (493, 54, 492, 0), (490, 54, 489, 18), (486, 54, 485, 17), (505, 54, 504, 20), (501, 54, 500, 19), (549, 54, 548, 25), (545, 54, 544, 24), (531, 54, 530, 23), (519, 54, 518, 21), (523, 54, 522, 22), (581, 54, 580, 26), (610, 54, 609, 27), (427, 54, 426, 13), (431, 54, 430, 14), (462, 54, 461, 15), (466, 54, 465, 16), (753, 61, 752, 0), (918, 61, 917, 0), (951, 61, 950, 0), (852, 61, 851, 41), (872, 61, 871, 0), (817, 61, 816, 38), (835, 61, 834, 39), (843, 61, 842, 40), (749, 61, 747, 748), (767, 61, 766, 29), (763, 61, 762, 28), (775, 61, 774, 31), (801, 61, 800, 37), (783, 61, 782, 33), (779, 61, 778, 32), (789, 61, 788, 34), (793, 61, 792, 35), (797, 61, 796, 36), (771, 61, 770, 30), (759, 61, 757, 758), (805, 61, 803, 804), (809, 61, 807, 808), (824, 61, 823, 0), (827, 61, 826, 0), (821, 61, 820, 0), (911, 61, 910, 0), (908, 61, 907, 46), (813, 61, 811, 812), (831, 61, 829, 830), (839, 61, 837, 838), (861, 61, 860, 42), (847, 61, 845, 846), (865, 61, 864, 43), (856, 61, 854, 855), (869, 61, 867, 868), (877, 61, 875, 876), (881, 61, 879, 880), (889, 61, 888, 44), (896, 61, 895, 0), (885, 61, 883, 884), (904, 61, 903, 45), (900, 61, 898, 899), (923, 61, 922, 47), (915, 61, 913, 914), (927, 61, 925, 926), (936, 61, 935, 48), (931, 61, 929, 930), (944, 61, 943, 49), (940, 61, 938, 939), (955, 61, 954, 50), (948, 61, 946, 947), (959, 61, 957, 958), (963, 61, 961, 962), (967, 61, 965, 966), (971, 61, 969, 970), (975, 61, 973, 974), (979, 61, 977, 978), (987, 61, 986, 51), (983, 61, 981, 982), (991, 61, 989, 990), (995, 61, 993, 994), (999, 61, 997, 998), (1007, 61, 1006, 52), (1003, 61, 1001, 1002), (1011, 61, 1009, 1010), (1015, 61, 1013, 1014), (1019, 61, 1017, 1018), (1023, 61, 1021, 1022), (1027, 61, 1025, 1026), (1031, 61, 1029, 1030), (1035, 61, 1033, 1034), (538, 64, 537, 0)]
theorem jKi_ok : jKi.all (fun q => jat q.2.2.2 (Cond.constant (jcn q.1) q.2.1 (jc q.2.2.1))) = true := by decide +kernel
theorem jKj_ok : jKj.all (fun q => jat q.2.2.2 (Cond.constantLong (jcn q.1) q.2.1 (jcl q.2.2.1))) = true := by decide +kernel
def jFok (q : Nat × Nat × Nat × Nat × Nat) : Bool := match vwCl[q.2.2.1]? with
  | some r => decide (q.2.2.2.1 < r.2.2) && jat q.2.2.2.2 (Cond.fieldLink (jcn q.1) q.2.1 (r.2.1 q.2.2.2.1).1 (r.2.1 q.2.2.2.1).2.1 (r.2.1 q.2.2.2.1).2.2.1)
  | none => false
theorem jFl_ok : jFl.all jFok = true := by decide +kernel
def jMok (q : Nat × Nat × Nat × Nat) : Bool := match jMt[q.2.2.1]? with
  | some r => jat q.2.2.2 (Cond.methodLink (jcn q.1) q.2.1 r.1)
  | none => false
theorem jMl_ok : jMl.all jMok = true := by decide +kernel
def jbn : Nat → MethodName
  | 1 => Lib.Math.min.name
  | 2 => Lib.Math.max.name
  | 3 => Lib.Math.abs.name
  | _ => arraycopyName
theorem jBl_ok : jBl.all (fun q => jat q.2.2.2 (Cond.methodLink (jcn q.1) q.2.1 (jbn q.2.2.1))) = true := by decide +kernel
def jRok (r : jR) (z : Nat × Nat × Nat × Nat) : Bool := jat z.1 (Cond.code r.1 r.2.1 r.2.2.1 r.2.2.2.1) && (jat z.2.1 (Cond.initialized r.1.cls) && (decide (r.1.cls ≠ "java/lang/invoke/MethodHandle" ∧ r.1.cls ≠ "java/lang/invoke/VarHandle") && (decide ((parseMethodDescriptor r.1.desc).map (fun d => d.parameters.length) = some r.2.2.2.2.1) && (plainName r.1.cls && (match vwCl[r.2.2.2.2.2.1]? with
  | some q => decide (q.1 = r.1.cls) && (jat z.2.2.1 (Cond.instanceMethod r.1) && jat z.2.2.2 (Cond.selects r.1.cls r.1 r.1))
  | none => jat z.2.2.1 (Cond.static r.1))))))
end
section
theorem jMt_ok_0 : ((((jMt.drop 0).take 20).zip ((jMp.drop 0).take 20)).all (fun q => jRok q.1 q.2)) = true := by decide +kernel
end
section
theorem jMt_ok_1 : ((((jMt.drop 20).take 20).zip ((jMp.drop 20).take 20)).all (fun q => jRok q.1 q.2)) = true := by decide +kernel
end
section
theorem jMt_ok_2 : ((((jMt.drop 40).take 20).zip ((jMp.drop 40).take 20)).all (fun q => jRok q.1 q.2)) = true := by decide +kernel
end
section
theorem jMt_ok_3 : ((((jMt.drop 60).take 20).zip ((jMp.drop 60).take 20)).all (fun q => jRok q.1 q.2)) = true := by decide +kernel
end
section
theorem jMt_ok_4 : ((((jMt.drop 80).take 20).zip ((jMp.drop 80).take 20)).all (fun q => jRok q.1 q.2)) = true := by decide +kernel
end
section
theorem jMt_ok_5 : ((((jMt.drop 100).take 20).zip ((jMp.drop 100).take 20)).all (fun q => jRok q.1 q.2)) = true := by decide +kernel
end
section
theorem jMt_ok_6 : ((((jMt.drop 120).take 20).zip ((jMp.drop 120).take 20)).all (fun q => jRok q.1 q.2)) = true := by decide +kernel
end
section
theorem jMt_ok_7 : ((((jMt.drop 140).take 20).zip ((jMp.drop 140).take 20)).all (fun q => jRok q.1 q.2)) = true := by decide +kernel
end
section
/-! THE MEMORY AS A PICTURE: a fixed shape K of N cells (tag, length, slots: 0 an int, 1 null, j+2 the cell j), and int contents x -/
abbrev jM : Type := Nat → Nat → Int32
abbrev jSh : Type := Nat × Nat × (Nat → Nat)
def jv (ad : Nat → Nat) : Value → Value
  | .ref a => .ref (ad a)
  | v => v
def jfv (ad : Nat → Nat) (k : Nat) (v : Int32) : Value := match k with
  | 0 => .int v
  | 1 => .null
  | j + 2 => .ref (ad j)
def jrf (ad : Nat → Nat) (k : Nat) : Option Nat := match k with
  | 0 => none
  | 1 => none
  | j + 2 => some (ad j)
def jce (ad : Nat → Nat) (cy : Nat → ClassId) (h : jSh) (f : Nat → Int32) : va_E :=
  if h.1 < 8 then .inr (h.1, (List.range h.2.1).map (fun k => jfv ad (h.2.2 k) (f k)))
  else if h.1 < 10 then .inl (cy h.1, h.2.1, .inl f)
  else .inl (cy h.1, h.2.1, .inr (.inr (.inr (.inr (fun k => if k < h.2.1 then jrf ad (h.2.2 k) else none)))))
def jW (ad : Nat → Nat) (cy : Nat → ClassId) (N : Nat) (K : Nat → jSh) (x : jM) : va_W := (List.range N).map (fun i => (ad i, jce ad cy (K i) (x i)))
def jua (x : jM) (o : Nat) (f : Nat → Int32) : jM := fun i => if i = o then f else x i
def ju (x : jM) (o k : Nat) (v : Int32) : jM := jua x o (upd (x o) k v)
def jty (cy : Nat → ClassId) : List (ClassId × FieldType) := [(cy 8, .int), (cy 9, .boolean), (cy 10, .object RX2), (cy 11, .object RX5)]
theorem jv_cat (ad : Nat → Nat) (v : Value) : (jv ad v).category = v.category := by cases v <;> rfl
theorem jW_at {ad : Nat → Nat} {cy : Nat → ClassId} {N : Nat} {K : Nat → jSh} {x : jM} {o : Nat} (h : o < N) : (jW ad cy N K x)[o]? = some (ad o, jce ad cy (K o) (x o)) := by
  simp [jW, h]
theorem jW_set {ad : Nat → Nat} {cy : Nat → ClassId} {N : Nat} {K : Nat → jSh} {x : jM} {o : Nat} {f : Nat → Int32} : (jW ad cy N K x).set o (ad o, jce ad cy (K o) f) = jW ad cy N K (jua x o f) := by
  apply List.ext_getElem?
  intro k
  by_cases hk : k = o
  · subst hk
    by_cases hN : k < N
    · rw [jW_at hN, List.getElem?_set]
      simp [jW, hN, jua]
    · simp [jW, hN]
  · rw [List.getElem?_set]
    simp only [jW, jua]
    rw [if_neg (fun h => hk h.symm)]
    by_cases hN : k < N
    · simp [hN, hk]
    · simp [hN]
theorem jce_obj {ad : Nat → Nat} {cy : Nat → ClassId} {h : jSh} {f : Nat → Int32} (ht : h.1 < 8) : jce ad cy h f = .inr (h.1, (List.range h.2.1).map (fun k => jfv ad (h.2.2 k) (f k))) := by
  simp [jce, ht]
theorem jce_int {ad : Nat → Nat} {cy : Nat → ClassId} {h : jSh} {f : Nat → Int32} (h1 : ¬ h.1 < 8) (h2 : h.1 < 10) : jce ad cy h f = .inl (cy h.1, h.2.1, .inl f) := by
  simp [jce, h1, h2]
theorem jce_ref {ad : Nat → Nat} {cy : Nat → ClassId} {h : jSh} {f : Nat → Int32} (h2 : ¬ h.1 < 10) : jce ad cy h f = .inl (cy h.1, h.2.1, .inr (.inr (.inr (.inr (fun k => if k < h.2.1 then jrf ad (h.2.2 k) else none))))) := by
  have h1 : ¬ h.1 < 8 := by omega
  simp [jce, h1, h2]
/-! THE LOCALS: by their places; none where nothing is known -/
def jL (ad : Nat → Nat) (ls : Array Slot) (n : Nat) (L : List (Option Value)) : Prop := ls.size = n ∧ lv_wf ls ∧ L.length ≤ n ∧ ∀ (i : Nat) (v : Value), L[i]? = some (some v) → ls[i]? = some (.val (jv ad v))
def jll (ad : Nat → Nat) (L : List (Option Value)) : List (Nat × Value) := (List.range L.length).filterMap (fun i => match L[i]? with
  | some (some v) => some (i, jv ad v)
  | _ => none)
theorem jll_mem {ad : Nat → Nat} {L : List (Option Value)} {q : Nat × Value} : q ∈ jll ad L ↔ ∃ v, L[q.1]? = some (some v) ∧ q.2 = jv ad v := by
  obtain ⟨i, w⟩ := q
  simp only [jll, List.mem_filterMap, List.mem_range]
  constructor
  · rintro ⟨j, hj, h⟩
    split at h
    · next v hv => cases h; exact ⟨v, hv, rfl⟩
    · cases h
  · rintro ⟨v, hv, rfl⟩
    refine ⟨i, (List.getElem?_eq_some_iff.mp hv).1, ?_⟩
    simp [hv]
theorem jL.has {ad : Nat → Nat} {ls : Array Slot} {n : Nat} {L : List (Option Value)} (h : jL ad ls n L) : lv_has ls n (jll ad L) := by
  refine ⟨h.1, h.2.1, fun q hq => ?_⟩
  obtain ⟨v, hv, he⟩ := jll_mem.mp hq
  rw [he]
  exact h.2.2.2 _ _ hv
/-- a place may be written: it lies within, and no long begins just ahead of it -/
def jsv (L : List (Option Value)) (i : Nat) : Bool := decide (i < L.length) && match i with
  | 0 => true
  | j + 1 => match L[j]? with
    | some (some w) => w.category == 1
    | _ => true
theorem jsv_lt {L : List (Option Value)} {i : Nat} (h : jsv L i = true) : i < L.length := by
  simp only [jsv, Bool.and_eq_true, decide_eq_true_eq] at h
  exact h.1
theorem jsv_cat {L : List (Option Value)} {i j : Nat} {w : Value} (h : jsv L i = true) (hj : j + 1 = i) (hw : L[j]? = some (some w)) : w.category = 1 := by
  subst hj
  simp only [jsv, Bool.and_eq_true, decide_eq_true_eq] at h
  simpa [hw] using h.2
theorem jL.st1 {ad : Nat → Nat} {ls ls' : Array Slot} {n : Nat} {L : List (Option Value)} {i : Nat} {v : Value} (h : jL ad ls n L) (hs : jsv L i = true)
    (h' : lv_has ls' n ((i, jv ad v) :: (jll ad L).filter (fun q => !(q.1 == i) && !(q.1 + 1 == i && q.2.category == 2)))) : jL ad ls' n (L.set i (some v)) := by
  refine ⟨h'.1, h'.2.1, by simpa using h.2.2.1, fun j w hj => ?_⟩
  rw [List.getElem?_set] at hj
  by_cases hji : i = j
  · subst hji
    have hlt := jsv_lt hs
    simp [hlt] at hj
    subst hj
    exact h'.2.2 _ List.mem_cons_self
  · rw [if_neg hji] at hj
    refine h'.2.2 (j, jv ad w) (List.mem_cons_of_mem _ (List.mem_filter.mpr ⟨jll_mem.mpr ⟨w, hj, rfl⟩, ?_⟩))
    have h1 : (j == i) = false := by simp; omega
    by_cases h2 : j + 1 = i
    · have := jsv_cat hs h2 hj
      simp [h1, jv_cat, this]
    · have h3 : (j + 1 == i) = false := by simp [h2]
      simp [h1, h3]
theorem jL.st2 {ad : Nat → Nat} {ls ls' : Array Slot} {n : Nat} {L : List (Option Value)} {i : Nat} {v : Value} (h : jL ad ls n L) (hs : jsv L i = true)
    (h' : lv_has ls' n ((i, jv ad v) :: (jll ad L).filter (fun q => !(q.1 == i) && (!(q.1 == i + 1) && !(q.1 + 1 == i && q.2.category == 2))))) : jL ad ls' n ((L.set i (some v)).set (i + 1) none) := by
  refine ⟨h'.1, h'.2.1, by simpa using h.2.2.1, fun j w hj => ?_⟩
  rw [List.getElem?_set] at hj
  by_cases hj1 : i + 1 = j
  · subst hj1
    rw [if_pos rfl] at hj
    split at hj <;> simp at hj
  rw [if_neg hj1, List.getElem?_set] at hj
  by_cases hji : i = j
  · subst hji
    have hlt := jsv_lt hs
    simp [hlt] at hj
    subst hj
    exact h'.2.2 _ List.mem_cons_self
  · rw [if_neg hji] at hj
    refine h'.2.2 (j, jv ad w) (List.mem_cons_of_mem _ (List.mem_filter.mpr ⟨jll_mem.mpr ⟨w, hj, rfl⟩, ?_⟩))
    have h1 : (j == i) = false := by simp; omega
    have h4 : (j == i + 1) = false := by simp; omega
    by_cases h2 : j + 1 = i
    · have := jsv_cat hs h2 hj
      simp [h1, h4, jv_cat, this]
    · have h3 : (j + 1 == i) = false := by simp [h2]
      simp [h1, h3, h4]
/-! ONE INSTRUCTION, as what must hold ahead of it -/
abbrev jO : Type := Nat → List Value → jM → (Option Value → jM → Prop) → Prop
abbrev jG : Type := Nat → List (Option Value) → List Value → jM → Prop
abbrev jI : Type := Nat × Instr × Nat × Nat × Nat × Int × List Nat
def jgI (L : List (Option Value)) (j : Nat) (g : Int32 → Prop) : Prop := match L[j]? with
  | some (some (.int v)) => g v
  | _ => False
def jgL (L : List (Option Value)) (j : Nat) (g : Int64 → Prop) : Prop := match L[j]? with
  | some (some (.long v)) => g v
  | _ => False
def jgA (L : List (Option Value)) (j : Nat) (g : Nat → Prop) : Prop := match L[j]? with
  | some (some (.ref v)) => g v
  | _ => False
def jB (b : Bool) (P : Prop) : Prop := match b with
  | true => P
  | false => False
def jpI (st : List Value) (g : Int32 → List Value → Prop) : Prop := match st with
  | .int v :: r => g v r
  | _ => False
def jpL (st : List Value) (g : Int64 → List Value → Prop) : Prop := match st with
  | .long v :: r => g v r
  | _ => False
def jpA (st : List Value) (g : Nat → List Value → Prop) : Prop := match st with
  | .ref v :: r => g v r
  | _ => False
def jp2 (st : List Value) (g : Int32 → Int32 → List Value → Prop) : Prop := jpI st (fun y r => jpI r (fun x r => g x y r))
def jp2L (st : List Value) (g : Int64 → Int64 → List Value → Prop) : Prop := jpL st (fun y r => jpL r (fun x r => g x y r))
def jif (cd : ClassFile.Cond) (v : Int32) : Prop := match cd with
  | .eq => v = 0
  | .ne => ¬ v = 0
  | .lt => v < 0
  | .ge => 0 ≤ v
  | .gt => 0 < v
  | .le => v ≤ 0
def jic (cd : ClassFile.Cond) (v y : Int32) : Prop := match cd with
  | .eq => v = y
  | .ne => ¬ v = y
  | .lt => v < y
  | .ge => y ≤ v
  | .gt => y < v
  | .le => v ≤ y
def jnf (cd : ClassFile.Cond) (v : Int32) : Prop := match cd with
  | .eq => ¬ v = 0
  | .ne => v = 0
  | .lt => ¬ v < 0
  | .ge => ¬ 0 ≤ v
  | .gt => ¬ 0 < v
  | .le => ¬ v ≤ 0
def jnc (cd : ClassFile.Cond) (v y : Int32) : Prop := match cd with
  | .eq => ¬ v = y
  | .ne => v = y
  | .lt => ¬ v < y
  | .ge => ¬ y ≤ v
  | .gt => ¬ y < v
  | .le => ¬ v ≤ y
/-- the cell o is an object of the kind a, with a field b -/
def job (N : Nat) (K : Nat → jSh) (o a b : Nat) : Bool := decide (o < N) && (decide ((K o).1 = a) && decide (b < (K o).2.1))
def jar (N : Nat) (K : Nat → jSh) (o a : Nat) : Bool := decide (o < N) && decide ((K o).1 = a)
def jrk (k : Nat) (g0 : Prop) (g : Nat → Prop) : Prop := match k with
  | 0 => g0
  | 1 => False
  | j + 2 => g j
/-- a switch, key by key; d else -/
def jsw (v : Int) (G : Nat → Prop) (d : Nat) : List (Int × Nat) → Prop
  | [] => G d
  | q :: r => (v = q.1 → G q.2) ∧ (¬ v = q.1 → jsw v G d r)
def jcs (st : List Value) : Bool := decide ((st.map fun v => v.category).sum ≤ 8)
def jx (O : jO) (N : Nat) (K : Nat → jSh) (G : jG) (Qr : Option Value → jM → Prop) (q : jI) (k : Nat) (L : List (Option Value)) (st : List Value) (x : jM) : Prop :=
  match q with
  | (_, i, _, a, b, c, ts) => match i with
    | .iconst _ => G (k + 1) L (.int (jc c) :: st) x
    | .bipush _ => G (k + 1) L (.int (jc c) :: st) x
    | .sipush _ => G (k + 1) L (.int (jc c) :: st) x
    | .ldc _ => G (k + 1) L (.int (jc c) :: st) x
    | .ldc_w _ => G (k + 1) L (.int (jc c) :: st) x
    | .lconst _ => G (k + 1) L (.long (jcl c) :: st) x
    | .ldc2_w _ => G (k + 1) L (.long (jcl c) :: st) x
    | .iload_n _ => jgI L a (fun v => G (k + 1) L (.int v :: st) x)
    | .iload _ => jgI L a (fun v => G (k + 1) L (.int v :: st) x)
    | .lload_n _ => jgL L a (fun v => G (k + 1) L (.long v :: st) x)
    | .lload _ => jgL L a (fun v => G (k + 1) L (.long v :: st) x)
    | .aload_n _ => jgA L a (fun v => G (k + 1) L (.ref v :: st) x)
    | .istore_n _ => jpI st (fun v r => jB (jsv L a) (G (k + 1) (L.set a (some (.int v))) r x))
    | .istore _ => jpI st (fun v r => jB (jsv L a) (G (k + 1) (L.set a (some (.int v))) r x))
    | .lstore_n _ => jpL st (fun v r => jB (jsv L a && decide (a + 1 < L.length)) (G (k + 1) ((L.set a (some (.long v))).set (a + 1) none) r x))
    | .lstore _ => jpL st (fun v r => jB (jsv L a && decide (a + 1 < L.length)) (G (k + 1) ((L.set a (some (.long v))).set (a + 1) none) r x))
    | .iinc _ _ => jgI L a (fun v => jB (jsv L a) (G (k + 1) (L.set a (some (.int (v + jc c)))) st x))
    | .iadd => jp2 st (fun v y r => G (k + 1) L (.int (v + y) :: r) x)
    | .isub => jp2 st (fun v y r => G (k + 1) L (.int (v - y) :: r) x)
    | .imul => jp2 st (fun v y r => G (k + 1) L (.int (v * y) :: r) x)
    | .iand => jp2 st (fun v y r => G (k + 1) L (.int (v &&& y) :: r) x)
    | .ior => jp2 st (fun v y r => G (k + 1) L (.int (v ||| y) :: r) x)
    | .ixor => jp2 st (fun v y r => G (k + 1) L (.int (v ^^^ y) :: r) x)
    | .ishl => jp2 st (fun v y r => G (k + 1) L (.int (v <<< (y &&& 31)) :: r) x)
    | .ishr => jp2 st (fun v y r => G (k + 1) L (.int (v >>> (y &&& 31)) :: r) x)
    | .iushr => jp2 st (fun v y r => G (k + 1) L (.int (v.toUInt32 >>> (y.toUInt32 &&& Int32.toUInt32 31)).toInt32 :: r) x)
    | .idiv => jp2 st (fun v y r => ¬ y = 0 ∧ G (k + 1) L (.int (v / y) :: r) x)
    | .irem => jp2 st (fun v y r => ¬ y = 0 ∧ G (k + 1) L (.int (v - v / y * y) :: r) x)
    | .ineg => jpI st (fun v r => G (k + 1) L (.int (-v) :: r) x)
    | .i2l => jpI st (fun v r => G (k + 1) L (.long v.toInt64 :: r) x)
    | .l2i => jpL st (fun v r => G (k + 1) L (.int v.toInt32 :: r) x)
    | .ladd => jp2L st (fun v y r => G (k + 1) L (.long (v + y) :: r) x)
    | .lmul => jp2L st (fun v y r => G (k + 1) L (.long (v * y) :: r) x)
    | .ldiv => jp2L st (fun v y r => ¬ y = 0 ∧ G (k + 1) L (.long (v / y) :: r) x)
    | .lrem => jp2L st (fun v y r => ¬ y = 0 ∧ G (k + 1) L (.long (v - v / y * y) :: r) x)
    | .lcmp => jp2L st (fun v y r => G (k + 1) L (.int (lg_cmp v y) :: r) x)
    | .dup => match st with
      | v :: r => jB (v.category == 1) (G (k + 1) L (v :: v :: r) x)
      | _ => False
    | .dup2 => match st with
      | v :: w :: r => jB (v.category == 1 && w.category == 1) (G (k + 1) L (v :: w :: v :: w :: r) x)
      | _ => False
    | .getfield _ => jpA st (fun o r => jB (job N K o a b) (jrk ((K o).2.2 b) (G (k + 1) L (.int (x o b) :: r) x) (fun j => G (k + 1) L (.ref j :: r) x)))
    | .putfield _ => jpI st (fun v r => jpA r (fun o r => jB (job N K o a b && decide ((K o).2.2 b = 0)) ((c = 1 → v = 0 ∨ v = 1) ∧ G (k + 1) L r (ju x o b v))))
    | .iaload => jpI st (fun i r => jpA r (fun o r => jB (jar N K o 8) (vp_in i (K o).2.1 ∧ G (k + 1) L (.int (x o i.toNatClampNeg) :: r) x)))
    | .iastore => jpI st (fun v r => jpI r (fun i r => jpA r (fun o r => jB (jar N K o 8) (vp_in i (K o).2.1 ∧ G (k + 1) L r (ju x o i.toNatClampNeg v)))))
    | .baload => jpI st (fun i r => jpA r (fun o r => jB (jar N K o 9) (vp_in i (K o).2.1 ∧ G (k + 1) L (.int (x o i.toNatClampNeg) :: r) x)))
    | .bastore => jpI st (fun v r => jpI r (fun i r => jpA r (fun o r => jB (jar N K o 9) (vp_in i (K o).2.1 ∧ (v = 0 ∨ v = 1) ∧ G (k + 1) L r (ju x o i.toNatClampNeg v)))))
    | .aaload => jpI st (fun i r => jpA r (fun o r => jB (jar N K o a && decide (10 ≤ a ∧ a < 12)) (vp_in i (K o).2.1 ∧ jrk ((K o).2.2 i.toNatClampNeg) False (fun j => G (k + 1) L (.ref j :: r) x))))
    | .goto _ => G (ts.getD 0 0) L st x
    | .ifCond cd _ => jpI st (fun v r => (jif cd v → G (ts.getD 0 0) L r x) ∧ (jnf cd v → G (k + 1) L r x))
    | .if_icmp cd _ => jp2 st (fun v y r => (jic cd v y → G (ts.getD 0 0) L r x) ∧ (jnc cd v y → G (k + 1) L r x))
    | .tableswitch _ lo _ _ => jpI st (fun v r => jsw v.toInt (fun t => G t L r x) (ts.getD 0 0) ((List.range (ts.length - 1)).map (fun j : Nat => (lo + (j : Int), ts.getD (j + 1) 0))))
    | .lookupswitch _ ps => jpI st (fun v r => jsw v.toInt (fun t => G t L r x) (ts.getD 0 0) ((List.range (ts.length - 1)).map (fun j : Nat => ((ps.toList.getD j (0, 0)).1, ts.getD (j + 1) 0))))
    | .invokevirtual _ => jpA (st.drop b) (fun o r => jB (jar N K o c.toNat && jcs r && decide (b ≤ st.length)) (O a (.ref o :: (st.take b).reverse) x (fun rv x' => G (k + 1) L (rv.toList ++ r) x')))
    | .invokestatic _ => match c with
      | 0 => jB (jcs (st.drop b) && decide (b ≤ st.length)) (O a (st.take b).reverse x (fun rv x' => G (k + 1) L (rv.toList ++ st.drop b) x'))
      | 1 => jp2 st (fun v y r => jB (jcs r) (G (k + 1) L (.int (if y < v then y else v) :: r) x))
      | 2 => jp2 st (fun v y r => jB (jcs r) (G (k + 1) L (.int (if v < y then y else v) :: r) x))
      | 3 => jpI st (fun v r => jB (jcs r) (G (k + 1) L (.int (if 0 ≤ v then v else 0 - v) :: r) x))
      | 4 => jpI st (fun n r => jpI r (fun dp r => jpA r (fun d r => jpI r (fun sp r => jpA r (fun o r => jB (jcs r && jar N K o 8 && jar N K d 8) (¬ sp < 0 ∧ ¬ dp < 0 ∧ ¬ n < 0 ∧ sp.toNatClampNeg + n.toNatClampNeg ≤ (K o).2.1 ∧ dp.toNatClampNeg + n.toNatClampNeg ≤ (K d).2.1 ∧ G (k + 1) L r (jua x d (va_cpy (x o) (x d) sp.toNatClampNeg dp.toNatClampNeg n.toNatClampNeg))))))))
      | _ => False
    | .ireturn => match st with
      | [.int v] => (c = 1 → v = 0 ∨ v = 1) ∧ Qr (some (.int v)) x
      | _ => False
    | .return_ => match st with
      | [] => Qr none x
      | _ => False
    | _ => False
/-- THE METHOD'S BODY, n steps at most: what must hold at its place k -/
def jwp (O : jO) (N : Nat) (K : Nat → jSh) (code : List jI) (Qr : Option Value → jM → Prop) : Nat → Nat → List (Option Value) → List Value → jM → Prop
  | 0, _, _, _, _ => False
  | n + 1, k, L, st, x => match code[k]? with
    | none => False
    | some q => jx O N K (fun k L st x => jwp O N K code Qr n k L st x) Qr q k L st x
end
section
/-! SOUND: what holds by jx ahead of an instruction, the machine does -/
section JS
variable {p : Program} {l : Launch} {e : Env} {R : Room} {s : State} {m : MethodId} {args : Array Value} {below : List Frame} {meth : Method} {c : Code} {cells slots : Nat} {Q : State → Prop}
variable {cc : ByteArray} {D : va_G} {cy : Nat → ClassId} {ad : Nat → Nat} {N nL : Nat} {K : Nat → jSh} {A : Nat → Prop} {own : String} {Ts : List Cond}
variable {pc : Nat} {L : List (Option Value)} {st : List Value} {x : jM}
def jT (p : Program) (l : Launch) (e : Env) (R : Room) (s : State) (m : MethodId) (args : Array Value) (below : List Frame) (meth : Method) (c : Code) (cells slots : Nat) (Q : State → Prop) (D : va_G) (cy : Nat → ClassId) (ad : Nat → Nat) (N nL : Nat) (K : Nat → jSh) (A : Nat → Prop) (pc : Nat) (L : List (Option Value)) (st : List Value) (x : jM) : Prop :=
  ∀ (H : Heap) (locs : List Loc) (ls : Array Slot), va_P D vwCl (jW ad cy N K x) H → va_D A (jW ad cy N K x) → va_S A s.heap H locs → jL ad ls nL L → W p l e R s m args below meth c H locs cells slots Q (F0 m pc ls (st.map (jv ad)))
def jE (p : Program) (R : Room) (s : State) (m : MethodId) (args : Array Value) (c : Code) (cells slots : Nat) (cc : ByteArray) (D : va_G) (cy : Nat → ClassId) (nL : Nat) (A : Nat → Prop) (own : String) (Ts : List Cond) : Prop :=
  p.tables.exec = Jvm.exec ∧ c.code = cc ∧ c.maxLocals = nL ∧ s.vm.findClass own = some m.cls ∧ (∀ w ∈ Ts, w.before args s = true) ∧ va_K D vwCl (jty cy) s ∧ (∀ q : Nat, s.heap.size ≤ q → A q) ∧ (∀ w ∈ jt, w ∈ Ts) ∧ cells ≤ R.cells ∧ slots ≤ R.slots
theorem js_iconst {n : Int} {v : Int32} (E : jE p R s m args c cells slots cc D cy nL A own Ts) (hd : decode cc pc = .ok (.iconst n, 1)) (hv : Int32.ofInt n = v) (k : jT p l e R s m args below meth c cells slots Q D cy ad N nL K A (pc + 1) L (.int v :: st) x) : jT p l e R s m args below meth c cells slots Q D cy ad N nL K A pc L st x :=
  fun H locs ls h1 h2 h3 h4 => lv_iconst E.1 E.2.1 hd hv (k H locs ls h1 h2 h3 h4)
theorem js_bipush {n : Int} {v : Int32} (E : jE p R s m args c cells slots cc D cy nL A own Ts) (hd : decode cc pc = .ok (.bipush n, 2)) (hv : (Int8.ofInt n).toInt32 = v) (k : jT p l e R s m args below meth c cells slots Q D cy ad N nL K A (pc + 2) L (.int v :: st) x) : jT p l e R s m args below meth c cells slots Q D cy ad N nL K A pc L st x :=
  fun H locs ls h1 h2 h3 h4 => lv_bipush E.1 E.2.1 hd hv (k H locs ls h1 h2 h3 h4)
theorem js_sipush {n : Int} {v : Int32} (E : jE p R s m args c cells slots cc D cy nL A own Ts) (hd : decode cc pc = .ok (.sipush n, 3)) (hv : (Int16.ofInt n).toInt32 = v) (k : jT p l e R s m args below meth c cells slots Q D cy ad N nL K A (pc + 3) L (.int v :: st) x) : jT p l e R s m args below meth c cells slots Q D cy ad N nL K A pc L st x :=
  fun H locs ls h1 h2 h3 h4 => lv_sipush E.1 E.2.1 hd hv (k H locs ls h1 h2 h3 h4)
theorem js_ldc {n : Nat} {v : Int32} (E : jE p R s m args c cells slots cc D cy nL A own Ts) (hw : Cond.constant own n v ∈ jt) (hd : decode cc pc = .ok (.ldc n, 2)) (k : jT p l e R s m args below meth c cells slots Q D cy ad N nL K A (pc + 2) L (.int v :: st) x) : jT p l e R s m args below meth c cells slots Q D cy ad N nL K A pc L st x :=
  fun H locs ls h1 h2 h3 h4 => lv_ldc E.1 E.2.1 E.2.2.2.1 (E.2.2.2.2.1 _ (E.2.2.2.2.2.2.2.1 _ hw)) hd (k H locs ls h1 h2 h3 h4)
theorem js_ldcw {n : Nat} {v : Int32} (E : jE p R s m args c cells slots cc D cy nL A own Ts) (hw : Cond.constant own n v ∈ jt) (hd : decode cc pc = .ok (.ldc_w n, 3)) (k : jT p l e R s m args below meth c cells slots Q D cy ad N nL K A (pc + 3) L (.int v :: st) x) : jT p l e R s m args below meth c cells slots Q D cy ad N nL K A pc L st x :=
  fun H locs ls h1 h2 h3 h4 => lv_ldcw E.1 E.2.1 E.2.2.2.1 (E.2.2.2.2.1 _ (E.2.2.2.2.2.2.2.1 _ hw)) hd (k H locs ls h1 h2 h3 h4)
theorem js_ldc2 {n : Nat} {v : Int64} (E : jE p R s m args c cells slots cc D cy nL A own Ts) (hw : Cond.constantLong own n v ∈ jt) (hd : decode cc pc = .ok (.ldc2_w n, 3)) (k : jT p l e R s m args below meth c cells slots Q D cy ad N nL K A (pc + 3) L (.long v :: st) x) : jT p l e R s m args below meth c cells slots Q D cy ad N nL K A pc L st x :=
  fun H locs ls h1 h2 h3 h4 => lv_ldc2 E.1 E.2.1 E.2.2.2.1 (E.2.2.2.2.1 _ (E.2.2.2.2.2.2.2.1 _ hw)) hd (k H locs ls h1 h2 h3 h4)
theorem js_lconst {n : Fin 2} {v : Int64} (E : jE p R s m args c cells slots cc D cy nL A own Ts) (hd : decode cc pc = .ok (.lconst n, 1)) (hv : Int64.ofNat (n : Nat) = v) (k : jT p l e R s m args below meth c cells slots Q D cy ad N nL K A (pc + 1) L (.long v :: st) x) : jT p l e R s m args below meth c cells slots Q D cy ad N nL K A pc L st x :=
  fun H locs ls h1 h2 h3 h4 => lv_lconst E.1 E.2.1 hd hv (k H locs ls h1 h2 h3 h4)
theorem js_iload_n {n : Fin 4} {a : Nat} {v : Int32} (E : jE p R s m args c cells slots cc D cy nL A own Ts) (hd : decode cc pc = .ok (.iload_n n, 1)) (ha : (n : Nat) = a) (hl : L[a]? = some (some (.int v))) (k : jT p l e R s m args below meth c cells slots Q D cy ad N nL K A (pc + 1) L (.int v :: st) x) : jT p l e R s m args below meth c cells slots Q D cy ad N nL K A pc L st x :=
  fun H locs ls h1 h2 h3 h4 => lv_iload_n E.1 E.2.1 hd ha (h4.2.2.2 _ _ hl) (k H locs ls h1 h2 h3 h4)
theorem js_iload {a : Nat} {v : Int32} (E : jE p R s m args c cells slots cc D cy nL A own Ts) (hd : decode cc pc = .ok (.iload a, 2)) (hl : L[a]? = some (some (.int v))) (k : jT p l e R s m args below meth c cells slots Q D cy ad N nL K A (pc + 2) L (.int v :: st) x) : jT p l e R s m args below meth c cells slots Q D cy ad N nL K A pc L st x :=
  fun H locs ls h1 h2 h3 h4 => lv_iload E.1 E.2.1 hd (h4.2.2.2 _ _ hl) (k H locs ls h1 h2 h3 h4)
theorem js_lload_n {n : Fin 4} {a : Nat} {v : Int64} (E : jE p R s m args c cells slots cc D cy nL A own Ts) (hd : decode cc pc = .ok (.lload_n n, 1)) (ha : (n : Nat) = a) (hl : L[a]? = some (some (.long v))) (k : jT p l e R s m args below meth c cells slots Q D cy ad N nL K A (pc + 1) L (.long v :: st) x) : jT p l e R s m args below meth c cells slots Q D cy ad N nL K A pc L st x :=
  fun H locs ls h1 h2 h3 h4 => lv_lload_n E.1 E.2.1 hd ha (h4.2.2.2 _ _ hl) (k H locs ls h1 h2 h3 h4)
theorem js_lload {a : Nat} {v : Int64} (E : jE p R s m args c cells slots cc D cy nL A own Ts) (hd : decode cc pc = .ok (.lload a, 2)) (hl : L[a]? = some (some (.long v))) (k : jT p l e R s m args below meth c cells slots Q D cy ad N nL K A (pc + 2) L (.long v :: st) x) : jT p l e R s m args below meth c cells slots Q D cy ad N nL K A pc L st x :=
  fun H locs ls h1 h2 h3 h4 => lv_lload E.1 E.2.1 hd (h4.2.2.2 _ _ hl) (k H locs ls h1 h2 h3 h4)
theorem js_aload_n {n : Fin 4} {a v : Nat} (E : jE p R s m args c cells slots cc D cy nL A own Ts) (hd : decode cc pc = .ok (.aload_n n, 1)) (ha : (n : Nat) = a) (hl : L[a]? = some (some (.ref v))) (k : jT p l e R s m args below meth c cells slots Q D cy ad N nL K A (pc + 1) L (.ref v :: st) x) : jT p l e R s m args below meth c cells slots Q D cy ad N nL K A pc L st x :=
  fun H locs ls h1 h2 h3 h4 => lv_aload_n E.1 E.2.1 hd ha (h4.2.2.2 _ _ hl) (k H locs ls h1 h2 h3 h4)
theorem js_istore_n {n : Fin 4} {a : Nat} {v : Int32} (E : jE p R s m args c cells slots cc D cy nL A own Ts) (hd : decode cc pc = .ok (.istore_n n, 1)) (ha : (n : Nat) = a) (hs : jsv L a = true) (k : jT p l e R s m args below meth c cells slots Q D cy ad N nL K A (pc + 1) (L.set a (some (.int v))) st x) : jT p l e R s m args below meth c cells slots Q D cy ad N nL K A pc L (.int v :: st) x :=
  fun H locs ls h1 h2 h3 h4 => lv_istore_n E.1 E.2.1 hd ha h4.has (Nat.lt_of_lt_of_le (jsv_lt hs) h4.2.2.1) rfl (fun ls' h' => k H locs ls' h1 h2 h3 (jL.st1 (v := .int v) h4 hs h'))
theorem js_istore {a : Nat} {v : Int32} (E : jE p R s m args c cells slots cc D cy nL A own Ts) (hd : decode cc pc = .ok (.istore a, 2)) (hs : jsv L a = true) (k : jT p l e R s m args below meth c cells slots Q D cy ad N nL K A (pc + 2) (L.set a (some (.int v))) st x) : jT p l e R s m args below meth c cells slots Q D cy ad N nL K A pc L (.int v :: st) x :=
  fun H locs ls h1 h2 h3 h4 => lv_istore E.1 E.2.1 hd h4.has (Nat.lt_of_lt_of_le (jsv_lt hs) h4.2.2.1) rfl (fun ls' h' => k H locs ls' h1 h2 h3 (jL.st1 (v := .int v) h4 hs h'))
theorem js_lstore_n {n : Fin 4} {a : Nat} {v : Int64} (E : jE p R s m args c cells slots cc D cy nL A own Ts) (hd : decode cc pc = .ok (.lstore_n n, 1)) (ha : (n : Nat) = a) (hs : jsv L a = true) (hs2 : a + 1 < L.length) (k : jT p l e R s m args below meth c cells slots Q D cy ad N nL K A (pc + 1) ((L.set a (some (.long v))).set (a + 1) none) st x) : jT p l e R s m args below meth c cells slots Q D cy ad N nL K A pc L (.long v :: st) x :=
  fun H locs ls h1 h2 h3 h4 => lv_lstore_n E.1 E.2.1 hd ha h4.has (Nat.lt_of_lt_of_le hs2 h4.2.2.1) rfl (fun ls' h' => k H locs ls' h1 h2 h3 (jL.st2 (v := .long v) h4 hs h'))
theorem js_lstore {a : Nat} {v : Int64} (E : jE p R s m args c cells slots cc D cy nL A own Ts) (hd : decode cc pc = .ok (.lstore a, 2)) (hs : jsv L a = true) (hs2 : a + 1 < L.length) (k : jT p l e R s m args below meth c cells slots Q D cy ad N nL K A (pc + 2) ((L.set a (some (.long v))).set (a + 1) none) st x) : jT p l e R s m args below meth c cells slots Q D cy ad N nL K A pc L (.long v :: st) x :=
  fun H locs ls h1 h2 h3 h4 => lv_lstore E.1 E.2.1 hd h4.has (Nat.lt_of_lt_of_le hs2 h4.2.2.1) rfl (fun ls' h' => k H locs ls' h1 h2 h3 (jL.st2 (v := .long v) h4 hs h'))
theorem js_iinc {a : Nat} {n : Int} {v w : Int32} (E : jE p R s m args c cells slots cc D cy nL A own Ts) (hd : decode cc pc = .ok (.iinc a n, 3)) (hl : L[a]? = some (some (.int v))) (hv : v + Int32.ofInt n = w) (hs : jsv L a = true) (k : jT p l e R s m args below meth c cells slots Q D cy ad N nL K A (pc + 3) (L.set a (some (.int w))) st x) : jT p l e R s m args below meth c cells slots Q D cy ad N nL K A pc L st x := by
  intro H locs ls h1 h2 h3 h4
  obtain ⟨i, hi⟩ := List.getElem?_of_mem (jll_mem (ad := ad) (L := L) (q := (a, .int v)) |>.mpr ⟨_, hl, rfl⟩)
  exact lv_iinc E.1 E.2.1 hd h4.has hi hv (Nat.lt_of_lt_of_le (jsv_lt hs) h4.2.2.1) rfl (fun ls' h' => k H locs ls' h1 h2 h3 (jL.st1 (v := .int w) h4 hs h'))
theorem js_iadd {v y : Int32} (E : jE p R s m args c cells slots cc D cy nL A own Ts) (hd : decode cc pc = .ok (.iadd, 1)) (k : jT p l e R s m args below meth c cells slots Q D cy ad N nL K A (pc + 1) L (.int (v + y) :: st) x) : jT p l e R s m args below meth c cells slots Q D cy ad N nL K A pc L (.int y :: .int v :: st) x :=
  fun H locs ls h1 h2 h3 h4 => lv_iadd E.1 E.2.1 hd (k H locs ls h1 h2 h3 h4)
theorem js_isub {v y : Int32} (E : jE p R s m args c cells slots cc D cy nL A own Ts) (hd : decode cc pc = .ok (.isub, 1)) (k : jT p l e R s m args below meth c cells slots Q D cy ad N nL K A (pc + 1) L (.int (v - y) :: st) x) : jT p l e R s m args below meth c cells slots Q D cy ad N nL K A pc L (.int y :: .int v :: st) x :=
  fun H locs ls h1 h2 h3 h4 => lv_isub E.1 E.2.1 hd (k H locs ls h1 h2 h3 h4)
theorem js_imul {v y : Int32} (E : jE p R s m args c cells slots cc D cy nL A own Ts) (hd : decode cc pc = .ok (.imul, 1)) (k : jT p l e R s m args below meth c cells slots Q D cy ad N nL K A (pc + 1) L (.int (v * y) :: st) x) : jT p l e R s m args below meth c cells slots Q D cy ad N nL K A pc L (.int y :: .int v :: st) x :=
  fun H locs ls h1 h2 h3 h4 => lv_imul E.1 E.2.1 hd (k H locs ls h1 h2 h3 h4)
theorem js_iand {v y : Int32} (E : jE p R s m args c cells slots cc D cy nL A own Ts) (hd : decode cc pc = .ok (.iand, 1)) (k : jT p l e R s m args below meth c cells slots Q D cy ad N nL K A (pc + 1) L (.int (v &&& y) :: st) x) : jT p l e R s m args below meth c cells slots Q D cy ad N nL K A pc L (.int y :: .int v :: st) x :=
  fun H locs ls h1 h2 h3 h4 => lv_iand E.1 E.2.1 hd (k H locs ls h1 h2 h3 h4)
theorem js_ior {v y : Int32} (E : jE p R s m args c cells slots cc D cy nL A own Ts) (hd : decode cc pc = .ok (.ior, 1)) (k : jT p l e R s m args below meth c cells slots Q D cy ad N nL K A (pc + 1) L (.int (v ||| y) :: st) x) : jT p l e R s m args below meth c cells slots Q D cy ad N nL K A pc L (.int y :: .int v :: st) x :=
  fun H locs ls h1 h2 h3 h4 => lv_ior E.1 E.2.1 hd (k H locs ls h1 h2 h3 h4)
theorem js_ixor {v y : Int32} (E : jE p R s m args c cells slots cc D cy nL A own Ts) (hd : decode cc pc = .ok (.ixor, 1)) (k : jT p l e R s m args below meth c cells slots Q D cy ad N nL K A (pc + 1) L (.int (v ^^^ y) :: st) x) : jT p l e R s m args below meth c cells slots Q D cy ad N nL K A pc L (.int y :: .int v :: st) x :=
  fun H locs ls h1 h2 h3 h4 => lv_ixor E.1 E.2.1 hd (k H locs ls h1 h2 h3 h4)
theorem js_ishl {v y : Int32} (E : jE p R s m args c cells slots cc D cy nL A own Ts) (hd : decode cc pc = .ok (.ishl, 1)) (k : jT p l e R s m args below meth c cells slots Q D cy ad N nL K A (pc + 1) L (.int (v <<< (y &&& 31)) :: st) x) : jT p l e R s m args below meth c cells slots Q D cy ad N nL K A pc L (.int y :: .int v :: st) x :=
  fun H locs ls h1 h2 h3 h4 => lv_ishl E.1 E.2.1 hd (k H locs ls h1 h2 h3 h4)
theorem js_ishr {v y : Int32} (E : jE p R s m args c cells slots cc D cy nL A own Ts) (hd : decode cc pc = .ok (.ishr, 1)) (k : jT p l e R s m args below meth c cells slots Q D cy ad N nL K A (pc + 1) L (.int (v >>> (y &&& 31)) :: st) x) : jT p l e R s m args below meth c cells slots Q D cy ad N nL K A pc L (.int y :: .int v :: st) x :=
  fun H locs ls h1 h2 h3 h4 => lv_ishr E.1 E.2.1 hd (k H locs ls h1 h2 h3 h4)
theorem js_ladd {v y : Int64} (E : jE p R s m args c cells slots cc D cy nL A own Ts) (hd : decode cc pc = .ok (.ladd, 1)) (k : jT p l e R s m args below meth c cells slots Q D cy ad N nL K A (pc + 1) L (.long (v + y) :: st) x) : jT p l e R s m args below meth c cells slots Q D cy ad N nL K A pc L (.long y :: .long v :: st) x :=
  fun H locs ls h1 h2 h3 h4 => lv_ladd E.1 E.2.1 hd (k H locs ls h1 h2 h3 h4)
theorem js_lmul {v y : Int64} (E : jE p R s m args c cells slots cc D cy nL A own Ts) (hd : decode cc pc = .ok (.lmul, 1)) (k : jT p l e R s m args below meth c cells slots Q D cy ad N nL K A (pc + 1) L (.long (v * y) :: st) x) : jT p l e R s m args below meth c cells slots Q D cy ad N nL K A pc L (.long y :: .long v :: st) x :=
  fun H locs ls h1 h2 h3 h4 => lv_lmul E.1 E.2.1 hd (k H locs ls h1 h2 h3 h4)
theorem js_iushr {v y w : Int32} (E : jE p R s m args c cells slots cc D cy nL A own Ts) (hd : decode cc pc = .ok (.iushr, 1)) (hv : (v.toUInt32 >>> (y.toUInt32 &&& Int32.toUInt32 31)).toInt32 = w) (k : jT p l e R s m args below meth c cells slots Q D cy ad N nL K A (pc + 1) L (.int w :: st) x) : jT p l e R s m args below meth c cells slots Q D cy ad N nL K A pc L (.int y :: .int v :: st) x :=
  fun H locs ls h1 h2 h3 h4 => lv_iushr E.1 E.2.1 hd hv (k H locs ls h1 h2 h3 h4)
theorem js_idiv {v y : Int32} (E : jE p R s m args c cells slots cc D cy nL A own Ts) (hd : decode cc pc = .ok (.idiv, 1)) (hn : ¬ y = 0) (k : jT p l e R s m args below meth c cells slots Q D cy ad N nL K A (pc + 1) L (.int (v / y) :: st) x) : jT p l e R s m args below meth c cells slots Q D cy ad N nL K A pc L (.int y :: .int v :: st) x :=
  fun H locs ls h1 h2 h3 h4 => lv_idiv E.1 E.2.1 hd hn (k H locs ls h1 h2 h3 h4)
theorem js_irem {v y : Int32} (E : jE p R s m args c cells slots cc D cy nL A own Ts) (hd : decode cc pc = .ok (.irem, 1)) (hn : ¬ y = 0) (k : jT p l e R s m args below meth c cells slots Q D cy ad N nL K A (pc + 1) L (.int (v - v / y * y) :: st) x) : jT p l e R s m args below meth c cells slots Q D cy ad N nL K A pc L (.int y :: .int v :: st) x :=
  fun H locs ls h1 h2 h3 h4 => lv_irem E.1 E.2.1 hd hn (k H locs ls h1 h2 h3 h4)
theorem js_ldiv {v y : Int64} (E : jE p R s m args c cells slots cc D cy nL A own Ts) (hd : decode cc pc = .ok (.ldiv, 1)) (hn : ¬ y = 0) (k : jT p l e R s m args below meth c cells slots Q D cy ad N nL K A (pc + 1) L (.long (v / y) :: st) x) : jT p l e R s m args below meth c cells slots Q D cy ad N nL K A pc L (.long y :: .long v :: st) x :=
  fun H locs ls h1 h2 h3 h4 => lv_ldiv E.1 E.2.1 hd hn (k H locs ls h1 h2 h3 h4)
theorem js_lrem {v y : Int64} (E : jE p R s m args c cells slots cc D cy nL A own Ts) (hd : decode cc pc = .ok (.lrem, 1)) (hn : ¬ y = 0) (k : jT p l e R s m args below meth c cells slots Q D cy ad N nL K A (pc + 1) L (.long (v - v / y * y) :: st) x) : jT p l e R s m args below meth c cells slots Q D cy ad N nL K A pc L (.long y :: .long v :: st) x :=
  fun H locs ls h1 h2 h3 h4 => lv_lrem E.1 E.2.1 hd hn (k H locs ls h1 h2 h3 h4)
theorem js_lcmp {v y : Int64} (E : jE p R s m args c cells slots cc D cy nL A own Ts) (hd : decode cc pc = .ok (.lcmp, 1)) (k : jT p l e R s m args below meth c cells slots Q D cy ad N nL K A (pc + 1) L (.int (lg_cmp v y) :: st) x) : jT p l e R s m args below meth c cells slots Q D cy ad N nL K A pc L (.long y :: .long v :: st) x :=
  fun H locs ls h1 h2 h3 h4 => W.lcmp E.1 E.2.1 hd (k H locs ls h1 h2 h3 h4)
theorem js_ineg {v : Int32} (E : jE p R s m args c cells slots cc D cy nL A own Ts) (hd : decode cc pc = .ok (.ineg, 1)) (k : jT p l e R s m args below meth c cells slots Q D cy ad N nL K A (pc + 1) L (.int (-v) :: st) x) : jT p l e R s m args below meth c cells slots Q D cy ad N nL K A pc L (.int v :: st) x :=
  fun H locs ls h1 h2 h3 h4 => lv_ineg E.1 E.2.1 hd (k H locs ls h1 h2 h3 h4)
theorem js_i2l {v : Int32} (E : jE p R s m args c cells slots cc D cy nL A own Ts) (hd : decode cc pc = .ok (.i2l, 1)) (k : jT p l e R s m args below meth c cells slots Q D cy ad N nL K A (pc + 1) L (.long v.toInt64 :: st) x) : jT p l e R s m args below meth c cells slots Q D cy ad N nL K A pc L (.int v :: st) x :=
  fun H locs ls h1 h2 h3 h4 => lv_i2l E.1 E.2.1 hd rfl (k H locs ls h1 h2 h3 h4)
theorem js_l2i {v : Int64} (E : jE p R s m args c cells slots cc D cy nL A own Ts) (hd : decode cc pc = .ok (.l2i, 1)) (k : jT p l e R s m args below meth c cells slots Q D cy ad N nL K A (pc + 1) L (.int v.toInt32 :: st) x) : jT p l e R s m args below meth c cells slots Q D cy ad N nL K A pc L (.long v :: st) x :=
  fun H locs ls h1 h2 h3 h4 => lv_l2i E.1 E.2.1 hd rfl (k H locs ls h1 h2 h3 h4)
theorem js_dup {v : Value} (E : jE p R s m args c cells slots cc D cy nL A own Ts) (hd : decode cc pc = .ok (.dup, 1)) (hv : v.category = 1) (k : jT p l e R s m args below meth c cells slots Q D cy ad N nL K A (pc + 1) L (v :: v :: st) x) : jT p l e R s m args below meth c cells slots Q D cy ad N nL K A pc L (v :: st) x :=
  fun H locs ls h1 h2 h3 h4 => lv_dup E.1 E.2.1 hd (by rw [jv_cat]; exact hv) (k H locs ls h1 h2 h3 h4)
theorem js_dup2 {v w : Value} (E : jE p R s m args c cells slots cc D cy nL A own Ts) (hd : decode cc pc = .ok (.dup2, 1)) (hv : v.category = 1) (hw : w.category = 1) (k : jT p l e R s m args below meth c cells slots Q D cy ad N nL K A (pc + 1) L (v :: w :: v :: w :: st) x) : jT p l e R s m args below meth c cells slots Q D cy ad N nL K A pc L (v :: w :: st) x :=
  fun H locs ls h1 h2 h3 h4 => lv_dup2_11 E.1 E.2.1 hd (by rw [jv_cat]; exact hv) (by rw [jv_cat]; exact hw) (k H locs ls h1 h2 h3 h4)
theorem js_goto {off : Int} {tgt : Nat} (E : jE p R s m args c cells slots cc D cy nL A own Ts) (hd : decode cc pc = .ok (.goto off, 3)) (ht : (pc : Int) + off = (tgt : Int)) (k : jT p l e R s m args below meth c cells slots Q D cy ad N nL K A tgt L st x) : jT p l e R s m args below meth c cells slots Q D cy ad N nL K A pc L st x :=
  fun H locs ls h1 h2 h3 h4 => lv_goto E.1 E.2.1 hd ht (k H locs ls h1 h2 h3 h4)
theorem js_if {cd : ClassFile.Cond} {off : Int} {tgt : Nat} {v : Int32} (E : jE p R s m args c cells slots cc D cy nL A own Ts) (hd : decode cc pc = .ok (.ifCond cd off, 3)) (ht : (pc : Int) + off = (tgt : Int)) (kt : jif cd v → jT p l e R s m args below meth c cells slots Q D cy ad N nL K A tgt L st x) (kf : jnf cd v → jT p l e R s m args below meth c cells slots Q D cy ad N nL K A (pc + 3) L st x) : jT p l e R s m args below meth c cells slots Q D cy ad N nL K A pc L (.int v :: st) x := by
  intro H locs ls h1 h2 h3 h4
  cases cd
  case eq => exact lv_if_eq E.1 E.2.1 hd ht (fun h => kt h H locs ls h1 h2 h3 h4) (fun h => kf h H locs ls h1 h2 h3 h4)
  case ne => exact lv_if_ne E.1 E.2.1 hd ht (fun h => kt h H locs ls h1 h2 h3 h4) (fun h => kf h H locs ls h1 h2 h3 h4)
  case lt => exact lv_if_lt E.1 E.2.1 hd ht (fun h => kt h H locs ls h1 h2 h3 h4) (fun h => kf h H locs ls h1 h2 h3 h4)
  case ge => exact lv_if_ge E.1 E.2.1 hd ht (fun h => kt h H locs ls h1 h2 h3 h4) (fun h => kf h H locs ls h1 h2 h3 h4)
  case gt => exact lv_if_gt E.1 E.2.1 hd ht (fun h => kt h H locs ls h1 h2 h3 h4) (fun h => kf h H locs ls h1 h2 h3 h4)
  case le => exact lv_if_le E.1 E.2.1 hd ht (fun h => kt h H locs ls h1 h2 h3 h4) (fun h => kf h H locs ls h1 h2 h3 h4)
theorem js_icmp {cd : ClassFile.Cond} {off : Int} {tgt : Nat} {v y : Int32} (E : jE p R s m args c cells slots cc D cy nL A own Ts) (hd : decode cc pc = .ok (.if_icmp cd off, 3)) (ht : (pc : Int) + off = (tgt : Int)) (kt : jic cd v y → jT p l e R s m args below meth c cells slots Q D cy ad N nL K A tgt L st x) (kf : jnc cd v y → jT p l e R s m args below meth c cells slots Q D cy ad N nL K A (pc + 3) L st x) : jT p l e R s m args below meth c cells slots Q D cy ad N nL K A pc L (.int y :: .int v :: st) x := by
  intro H locs ls h1 h2 h3 h4
  cases cd
  case eq => exact lv_icmp_eq E.1 E.2.1 hd ht (fun h => kt h H locs ls h1 h2 h3 h4) (fun h => kf h H locs ls h1 h2 h3 h4)
  case ne => exact lv_icmp_ne E.1 E.2.1 hd ht (fun h => kt h H locs ls h1 h2 h3 h4) (fun h => kf h H locs ls h1 h2 h3 h4)
  case lt => exact lv_icmp_lt E.1 E.2.1 hd ht (fun h => kt h H locs ls h1 h2 h3 h4) (fun h => kf h H locs ls h1 h2 h3 h4)
  case ge => exact lv_icmp_ge E.1 E.2.1 hd ht (fun h => kt h H locs ls h1 h2 h3 h4) (fun h => kf h H locs ls h1 h2 h3 h4)
  case gt => exact lv_icmp_gt E.1 E.2.1 hd ht (fun h => kt h H locs ls h1 h2 h3 h4) (fun h => kf h H locs ls h1 h2 h3 h4)
  case le => exact lv_icmp_le E.1 E.2.1 hd ht (fun h => kt h H locs ls h1 h2 h3 h4) (fun h => kf h H locs ls h1 h2 h3 h4)
theorem js_tabOut {dflt lo hi : Int} {offs : Array Int} {len tgt : Nat} {v : Int32} (E : jE p R s m args c cells slots cc D cy nL A own Ts) (hd : decode cc pc = .ok (.tableswitch dflt lo hi offs, len)) (h : v.toInt < lo ∨ hi < v.toInt) (ht : (pc : Int) + dflt = (tgt : Int)) (k : jT p l e R s m args below meth c cells slots Q D cy ad N nL K A tgt L st x) : jT p l e R s m args below meth c cells slots Q D cy ad N nL K A pc L (.int v :: st) x :=
  fun H locs ls h1 h2 h3 h4 => lv_tableOut E.1 E.2.1 hd h ht (k H locs ls h1 h2 h3 h4)
theorem js_tabIn {dflt lo hi off : Int} {offs : Array Int} {len tgt : Nat} {v : Int32} (E : jE p R s m args c cells slots cc D cy nL A own Ts) (hd : decode cc pc = .ok (.tableswitch dflt lo hi offs, len)) (ha : ¬ v.toInt < lo) (hb : ¬ hi < v.toInt) (ho : offs[(v.toInt - lo).toNat]? = some off) (ht : (pc : Int) + off = (tgt : Int)) (k : jT p l e R s m args below meth c cells slots Q D cy ad N nL K A tgt L st x) : jT p l e R s m args below meth c cells slots Q D cy ad N nL K A pc L (.int v :: st) x :=
  fun H locs ls h1 h2 h3 h4 => lv_tableIn E.1 E.2.1 hd ha hb ho ht (k H locs ls h1 h2 h3 h4)
theorem js_look {dflt off : Int} {ps : Array (Int × Int)} {len tgt : Nat} {v : Int32} (E : jE p R s m args c cells slots cc D cy nL A own Ts) (hd : decode cc pc = .ok (.lookupswitch dflt ps, len)) (hp : (ps.toList.zip (ps.toList.drop 1)).all (fun (a, next) => a.1 < next.1) = true) (ho : Op.lookupswitch.offset ps.toList dflt v.toInt = off) (ht : (pc : Int) + off = (tgt : Int)) (k : jT p l e R s m args below meth c cells slots Q D cy ad N nL K A tgt L st x) : jT p l e R s m args below meth c cells slots Q D cy ad N nL K A pc L (.int v :: st) x :=
  fun H locs ls h1 h2 h3 h4 => lv_lookup E.1 E.2.1 hd hp ho ht (k H locs ls h1 h2 h3 h4)
end JS
end
section
/-! SOUND: fields and rows of numbers -/
theorem jcl_ok : ∀ (ci : Nat) (q : vw_C), vwCl[ci]? = some q → (∀ w ∈ u_ws q.1 q.2.1 q.2.2, w ∈ jt) ∧ ∃ ty0 : Nat → FieldType, (∀ k, k < q.2.2 → parseFieldDescriptor (q.2.1 k).2.2.1 = some (ty0 k)) ∧ (∀ a, a < q.2.2 → ∀ b, b < q.2.2 → a ≠ b → (q.2.1 a).2.1 ≠ (q.2.1 b).2.1) := by
  intro ci q h
  match ci, h with
  | 0, h => cases h; exact ⟨inX0, tyX0, tyX0_ok, nmX0⟩
  | 1, h => cases h; exact ⟨inX1, tyX1, tyX1_ok, nmX1⟩
  | 2, h => cases h; exact ⟨inX2, tyX2, tyX2_ok, nmX2⟩
  | 3, h => cases h; exact ⟨inX3, tyX3, tyX3_ok, nmX3⟩
  | 4, h => cases h; exact ⟨inX4, tyX4, tyX4_ok, nmX4⟩
  | 5, h => cases h; exact ⟨inX5, tyX5, tyX5_ok, nmX5⟩
  | 6, h => cases h; exact ⟨inX6, tyX6, tyX6_ok, nmX6⟩
  | 7, h => cases h; exact ⟨inX7, tyX7, tyX7_ok, nmX7⟩
  | k + 8, h => simp [vwCl] at h
theorem vwCl_lt {ci : Nat} {q : vw_C} (h : vwCl[ci]? = some q) : ci < 8 := by
  have := (List.getElem?_eq_some_iff.mp h).1
  simpa [vwCl] using this
theorem job_spec {N : Nat} {K : Nat → jSh} {o a b : Nat} (h : job N K o a b = true) : o < N ∧ (K o).1 = a ∧ b < (K o).2.1 := by
  simpa [job] using h
theorem jar_spec {N : Nat} {K : Nat → jSh} {o a : Nat} (h : jar N K o a = true) : o < N ∧ (K o).1 = a := by
  simpa [jar] using h
theorem jB_spec {b : Bool} {P : Prop} (h : jB b P) : b = true ∧ P := by
  cases b with
  | true => exact ⟨rfl, h⟩
  | false => exact h.elim
theorem jset_fs {ad : Nat → Nat} {cy : Nat → ClassId} {h : jSh} {f : Nat → Int32} {b : Nat} {v : Int32} (ht : h.1 < 8) (hk : h.2.2 b = 0) :
    (Sum.inr (h.1, ((List.range h.2.1).map (fun k => jfv ad (h.2.2 k) (f k))).set b (.int v)) : va_E) = jce ad cy h (upd f b v) := by
  rw [jce_obj ht]
  congr 2
  apply List.ext_getElem?
  intro k
  rw [List.getElem?_set]
  by_cases hb : b = k
  · subst hb
    by_cases hl : b < h.2.1
    · simp [hl, hk, jfv, upd]
    · simp [hl]
  · rw [if_neg hb]
    by_cases hl : k < h.2.1
    · simp [hl, upd, Ne.symm hb]
    · simp [hl]
theorem jcs_spec {ad : Nat → Nat} {st : List Value} (h : jcs st = true) : ((st.map (jv ad)).map fun v => v.category).sum ≤ 8 := by
  have : (st.map (jv ad)).map (fun v => v.category) = st.map (fun v => v.category) := by
    rw [List.map_map]
    exact List.map_congr_left (fun v _ => jv_cat ad v)
  rw [this]
  simpa [jcs] using h
theorem mw_ini : Cond.initialized "java/lang/Math" ∈ jt := by decide +kernel
theorem mw_min : Cond.static Lib.Math.min.name ∈ jt ∧ Cond.code Lib.Math.min.name Lib.Math.min.code 2 (some .int) ∈ jt := by decide +kernel
theorem mw_max : Cond.static Lib.Math.max.name ∈ jt ∧ Cond.code Lib.Math.max.name Lib.Math.max.code 2 (some .int) ∈ jt := by decide +kernel
theorem mw_abs : Cond.static Lib.Math.abs.name ∈ jt ∧ Cond.code Lib.Math.abs.name Lib.Math.abs.code 1 (some .int) ∈ jt := by decide +kernel
theorem mw_copy : Cond.native arraycopyName ∈ jt ∧ Cond.static arraycopyName ∈ jt ∧ Cond.initialized "java/lang/System" ∈ jt := by decide +kernel
section JS2
variable {p : Program} {l : Launch} {e : Env} {R : Room} {s : State} {m : MethodId} {args : Array Value} {below : List Frame} {meth : Method} {c : Code} {cells slots : Nat} {Q : State → Prop}
variable {cc : ByteArray} {D : va_G} {cy : Nat → ClassId} {ad : Nat → Nat} {N nL : Nat} {K : Nat → jSh} {A : Nat → Prop} {own : String} {Ts : List Cond}
variable {pc : Nat} {L : List (Option Value)} {st : List Value} {x : jM}
theorem js_get {n o a b : Nat} {v : Value} {q : vw_C} (E : jE p R s m args c cells slots cc D cy nL A own Ts) (hq : vwCl[a]? = some q) (hb : b < q.2.2) (hw : Cond.fieldLink own n (q.2.1 b).1 (q.2.1 b).2.1 (q.2.1 b).2.2.1 ∈ jt) (hj : job N K o a b = true) (hd : decode cc pc = .ok (.getfield n, 3)) (hv : jfv ad ((K o).2.2 b) (x o b) = jv ad v) (k : jT p l e R s m args below meth c cells slots Q D cy ad N nL K A (pc + 3) L (v :: st) x) : jT p l e R s m args below meth c cells slots Q D cy ad N nL K A pc L (.ref o :: st) x := by
  intro H locs ls h1 h2 h3 h4
  obtain ⟨hcw, ty0, hty, hnm⟩ := jcl_ok a q hq
  obtain ⟨ho, ht, hl⟩ := job_spec hj
  have he := jW_at (ad := ad) (cy := cy) (K := K) (x := x) ho
  rw [jce_obj (by rw [ht]; exact vwCl_lt hq), ht] at he
  exact va_get (D := D) (ci := a) (v := jv ad v) (C := q.1) (T := q.2.1) (N := q.2.2) E.1 E.2.1 E.2.2.2.2.1 (fun w h => E.2.2.2.2.2.2.2.1 w (hcw w h)) E.2.2.2.1 E.2.2.2.2.2.1 h1 o he hq b hb (E.2.2.2.2.1 _ (E.2.2.2.2.2.2.2.1 _ hw)) (fun _ h9 => h9) (by simp [hl, hv]) hd (k H locs ls h1 h2 h3 h4)
theorem js_put {n o a b : Nat} {v : Int32} {q : vw_C} {ty : FieldType} (E : jE p R s m args c cells slots cc D cy nL A own Ts) (hq : vwCl[a]? = some q) (hb : b < q.2.2) (hw : Cond.fieldLink own n (q.2.1 b).1 (q.2.1 b).2.1 (q.2.1 b).2.2.1 ∈ jt) (hfin : (q.2.1 b).2.2.2 = false) (hpd : parseFieldDescriptor (q.2.1 b).2.2.1 = some ty) (hn : narrow ty (.int v) = .int v) (hfit : fits ty (.int v) = true) (hj : job N K o a b = true) (hk : (K o).2.2 b = 0) (hd : decode cc pc = .ok (.putfield n, 3)) (k : jT p l e R s m args below meth c cells slots Q D cy ad N nL K A (pc + 3) L st (ju x o b v)) : jT p l e R s m args below meth c cells slots Q D cy ad N nL K A pc L (.int v :: .ref o :: st) x := by
  intro H locs ls h1 h2 h3 h4
  obtain ⟨hcw, ty0, hty, hnm⟩ := jcl_ok a q hq
  obtain ⟨ho, ht, hl⟩ := job_spec hj
  have he := jW_at (ad := ad) (cy := cy) (K := K) (x := x) ho
  have h8 : (K o).1 < 8 := by rw [ht]; exact vwCl_lt hq
  rw [jce_obj h8] at he
  refine va_put (D := D) (ci := (K o).1) (v := .int v) (ty := ty) (C := q.1) (T := q.2.1) (N := q.2.2) E.1 E.2.1 E.2.2.2.2.1 (fun w h => E.2.2.2.2.2.2.2.1 w (hcw w h)) ty0 hty hnm E.2.2.2.1 E.2.2.2.2.2.1 h1 h2 h3 o he (by rw [ht]; exact hq) b hb (E.2.2.2.2.1 _ (E.2.2.2.2.2.2.2.1 _ hw)) (fun _ h9 => h9) hfin hpd hn hfit (by simp [hl]) hd (fun H1 locs1 hP hD hS => ?_)
  rw [jset_fs (cy := cy) h8 hk, jW_set] at hP hD
  exact k H1 locs1 ls hP hD hS h4
theorem js_iald {o : Nat} {i : Int32} (E : jE p R s m args c cells slots cc D cy nL A own Ts) (hj : jar N K o 8 = true) (hin : vp_in i (K o).2.1) (hd : decode cc pc = .ok (.iaload, 1)) (k : jT p l e R s m args below meth c cells slots Q D cy ad N nL K A (pc + 1) L (.int (x o i.toNatClampNeg) :: st) x) : jT p l e R s m args below meth c cells slots Q D cy ad N nL K A pc L (.int i :: .ref o :: st) x := by
  intro H locs ls h1 h2 h3 h4
  obtain ⟨ho, ht⟩ := jar_spec hj
  have he := jW_at (ad := ad) (cy := cy) (K := K) (x := x) ho
  rw [jce_int (by omega) (by omega), ht] at he
  exact va_iald E.1 E.2.1 E.2.2.2.2.2.1 h1 o 0 he rfl hin hd (k H locs ls h1 h2 h3 h4)
theorem js_bald {o : Nat} {i : Int32} (E : jE p R s m args c cells slots cc D cy nL A own Ts) (hj : jar N K o 9 = true) (hin : vp_in i (K o).2.1) (hd : decode cc pc = .ok (.baload, 1)) (k : jT p l e R s m args below meth c cells slots Q D cy ad N nL K A (pc + 1) L (.int (x o i.toNatClampNeg) :: st) x) : jT p l e R s m args below meth c cells slots Q D cy ad N nL K A pc L (.int i :: .ref o :: st) x := by
  intro H locs ls h1 h2 h3 h4
  obtain ⟨ho, ht⟩ := jar_spec hj
  have he := jW_at (ad := ad) (cy := cy) (K := K) (x := x) ho
  rw [jce_int (by omega) (by omega), ht] at he
  exact va_zald E.1 E.2.1 E.2.2.2.2.2.1 h1 o 1 he rfl hin hd (k H locs ls h1 h2 h3 h4)
theorem js_iast {o : Nat} {i v : Int32} (E : jE p R s m args c cells slots cc D cy nL A own Ts) (hj : jar N K o 8 = true) (hin : vp_in i (K o).2.1) (hd : decode cc pc = .ok (.iastore, 1)) (k : jT p l e R s m args below meth c cells slots Q D cy ad N nL K A (pc + 1) L st (ju x o i.toNatClampNeg v)) : jT p l e R s m args below meth c cells slots Q D cy ad N nL K A pc L (.int v :: .int i :: .ref o :: st) x := by
  intro H locs ls h1 h2 h3 h4
  obtain ⟨ho, ht⟩ := jar_spec hj
  have he := jW_at (ad := ad) (cy := cy) (K := K) (x := x) ho
  rw [jce_int (by omega) (by omega)] at he
  refine va_iast E.1 E.2.1 E.2.2.2.2.2.1 h1 h2 h3 o 0 he (by rw [ht]; rfl) hin hd (fun H1 locs1 hP hD hS => ?_)
  rw [← jce_int (ad := ad) (cy := cy) (by omega) (by omega), jW_set] at hP hD
  exact k H1 locs1 ls hP hD hS h4
theorem js_bast {o : Nat} {i v : Int32} (E : jE p R s m args c cells slots cc D cy nL A own Ts) (hj : jar N K o 9 = true) (hin : vp_in i (K o).2.1) (hv : v = 0 ∨ v = 1) (hd : decode cc pc = .ok (.bastore, 1)) (k : jT p l e R s m args below meth c cells slots Q D cy ad N nL K A (pc + 1) L st (ju x o i.toNatClampNeg v)) : jT p l e R s m args below meth c cells slots Q D cy ad N nL K A pc L (.int v :: .int i :: .ref o :: st) x := by
  intro H locs ls h1 h2 h3 h4
  obtain ⟨ho, ht⟩ := jar_spec hj
  have he := jW_at (ad := ad) (cy := cy) (K := K) (x := x) ho
  rw [jce_int (by omega) (by omega)] at he
  have hz : vp_nar .boolean v = v := by rcases hv with rfl | rfl <;> rfl
  refine va_zast E.1 E.2.1 E.2.2.2.2.2.1 h1 h2 h3 o 1 he (by rw [ht]; rfl) hin hd (fun H1 locs1 hP hD hS => ?_)
  rw [hz, ← jce_int (ad := ad) (cy := cy) (by omega) (by omega), jW_set] at hP hD
  exact k H1 locs1 ls hP hD hS h4
theorem js_aald {o a j : Nat} {i : Int32} (E : jE p R s m args c cells slots cc D cy nL A own Ts) (hj : jar N K o a = true) (ha : 10 ≤ a ∧ a < 12) (hin : vp_in i (K o).2.1) (hr : (K o).2.2 i.toNatClampNeg = j + 2) (hd : decode cc pc = .ok (.aaload, 1)) (k : jT p l e R s m args below meth c cells slots Q D cy ad N nL K A (pc + 1) L (.ref j :: st) x) : jT p l e R s m args below meth c cells slots Q D cy ad N nL K A pc L (.int i :: .ref o :: st) x := by
  intro H locs ls h1 h2 h3 h4
  obtain ⟨ho, ht⟩ := jar_spec hj
  have he := jW_at (ad := ad) (cy := cy) (K := K) (x := x) ho
  rw [jce_ref (by omega), ht] at he
  have hk := k H locs ls h1 h2 h3 h4
  have hlt : i.toNatClampNeg < (K o).2.1 := Nat.not_le.mp fun q => hin (Or.inr q)
  rcases (show a = 10 ∨ a = 11 by omega) with rfl | rfl
  · refine va_aldq (C := RX2) E.1 E.2.1 E.2.2.2.2.2.1 h1 o 2 he rfl hin hd ?_
    rw [if_pos hlt, hr]
    exact hk
  · refine va_aldq (C := RX5) E.1 E.2.1 E.2.2.2.2.2.1 h1 o 3 he rfl hin hd ?_
    rw [if_pos hlt, hr]
    exact hk
theorem js_mmin {n : Nat} {v y : Int32} (E : jE p R s m args c cells slots cc D cy nL A own Ts) (hR : 1 ≤ R.frames ∧ 21 ≤ R.locals) (hw : Cond.methodLink own n Lib.Math.min.name ∈ jt) (hc : jcs st = true) (hd : decode cc pc = .ok (.invokestatic n, 3)) (k : jT p l e R s m args below meth c cells slots Q D cy ad N nL K A (pc + 3) L (.int (if y < v then y else v) :: st) x) : jT p l e R s m args below meth c cells slots Q D cy ad N nL K A pc L (.int y :: .int v :: st) x := by
  intro H locs ls h1 h2 h3 h4
  have T : ∀ w ∈ jt, w.before args s = true := fun w h => E.2.2.2.2.1 w (E.2.2.2.2.2.2.2.1 w h)
  exact va_mmin E.1 E.2.1 (by rw [E.2.2.1, h4.1]) E.2.2.2.1 (T _ hw) (T _ mw_min.1) (T _ mw_ini) (T _ mw_min.2) hR.1 (by have := jcs_spec (ad := ad) hc; omega) E.2.2.2.2.2.2.2.2.1 E.2.2.2.2.2.2.2.2.2 hd (k H locs ls h1 h2 h3 h4)
theorem js_mmax {n : Nat} {v y : Int32} (E : jE p R s m args c cells slots cc D cy nL A own Ts) (hR : 1 ≤ R.frames ∧ 21 ≤ R.locals) (hw : Cond.methodLink own n Lib.Math.max.name ∈ jt) (hc : jcs st = true) (hd : decode cc pc = .ok (.invokestatic n, 3)) (k : jT p l e R s m args below meth c cells slots Q D cy ad N nL K A (pc + 3) L (.int (if v < y then y else v) :: st) x) : jT p l e R s m args below meth c cells slots Q D cy ad N nL K A pc L (.int y :: .int v :: st) x := by
  intro H locs ls h1 h2 h3 h4
  have T : ∀ w ∈ jt, w.before args s = true := fun w h => E.2.2.2.2.1 w (E.2.2.2.2.2.2.2.1 w h)
  exact va_mmax E.1 E.2.1 (by rw [E.2.2.1, h4.1]) E.2.2.2.1 (T _ hw) (T _ mw_max.1) (T _ mw_ini) (T _ mw_max.2) hR.1 (by have := jcs_spec (ad := ad) hc; omega) E.2.2.2.2.2.2.2.2.1 E.2.2.2.2.2.2.2.2.2 hd (k H locs ls h1 h2 h3 h4)
theorem js_mabs {n : Nat} {v : Int32} (E : jE p R s m args c cells slots cc D cy nL A own Ts) (hR : 1 ≤ R.frames ∧ 21 ≤ R.locals) (hw : Cond.methodLink own n Lib.Math.abs.name ∈ jt) (hc : jcs st = true) (hd : decode cc pc = .ok (.invokestatic n, 3)) (k : jT p l e R s m args below meth c cells slots Q D cy ad N nL K A (pc + 3) L (.int (if 0 ≤ v then v else 0 - v) :: st) x) : jT p l e R s m args below meth c cells slots Q D cy ad N nL K A pc L (.int v :: st) x := by
  intro H locs ls h1 h2 h3 h4
  have T : ∀ w ∈ jt, w.before args s = true := fun w h => E.2.2.2.2.1 w (E.2.2.2.2.2.2.2.1 w h)
  exact va_mabs E.1 E.2.1 (by rw [E.2.2.1, h4.1]) E.2.2.2.1 (T _ hw) (T _ mw_abs.1) (T _ mw_ini) (T _ mw_abs.2) hR.1 (by have := jcs_spec (ad := ad) hc; omega) E.2.2.2.2.2.2.2.2.1 E.2.2.2.2.2.2.2.2.2 hd (k H locs ls h1 h2 h3 h4)
theorem js_copy {ix o d : Nat} {sp dp n : Int32} (E : jE p R s m args c cells slots cc D cy nL A own Ts) (hR : 1 ≤ R.frames ∧ 8 + (nativeFrameWords "java/lang/System" "arraycopy" 5 + 11) ≤ R.locals) (hw : Cond.methodLink own ix arraycopyName ∈ jt) (hc : jcs st = true) (hjo : jar N K o 8 = true) (hjd : jar N K d 8 = true) (g1 : ¬ sp < 0) (g2 : ¬ dp < 0) (g3 : ¬ n < 0) (g4 : sp.toNatClampNeg + n.toNatClampNeg ≤ (K o).2.1) (g5 : dp.toNatClampNeg + n.toNatClampNeg ≤ (K d).2.1) (hd : decode cc pc = .ok (.invokestatic ix, 3)) (k : jT p l e R s m args below meth c cells slots Q D cy ad N nL K A (pc + 3) L st (jua x d (va_cpy (x o) (x d) sp.toNatClampNeg dp.toNatClampNeg n.toNatClampNeg))) : jT p l e R s m args below meth c cells slots Q D cy ad N nL K A pc L (.int n :: .int dp :: .ref d :: .int sp :: .ref o :: st) x := by
  intro H locs ls h1 h2 h3 h4
  have T : ∀ w ∈ jt, w.before args s = true := fun w h => E.2.2.2.2.1 w (E.2.2.2.2.2.2.2.1 w h)
  obtain ⟨ho, hto⟩ := jar_spec hjo
  obtain ⟨hdd, htd⟩ := jar_spec hjd
  have heo := jW_at (ad := ad) (cy := cy) (K := K) (x := x) ho
  rw [jce_int (by omega) (by omega)] at heo
  have hed := jW_at (ad := ad) (cy := cy) (K := K) (x := x) hdd
  rw [jce_int (by omega) (by omega)] at hed
  refine va_copyi E.1 E.2.1 (by rw [E.2.2.1, h4.1]) E.2.2.2.1 (T _ hw) (T _ mw_copy.1) (T _ mw_copy.2.1) (T _ mw_copy.2.2) E.2.2.2.2.2.1 h1 h2 h3 o d 0 0 (ty := .int) heo hed (by rw [hto]; rfl) (by rw [htd]; rfl) rfl g1 g2 g3 g4 g5 (fun _ _ => rfl) hR.1 (by have := jcs_spec (ad := ad) hc; omega) hd (fun H1 locs1 hP hD hS => ?_)
  rw [← jce_int (ad := ad) (cy := cy) (by omega) (by omega), jW_set] at hP hD
  exact k H1 locs1 ls hP hD hS h4
end JS2
end
section
/-! CONTRACTS over the picture, and calls -/
def jPre (D : va_G) (cy : Nat → ClassId) (ad : Nat → Nat) (N : Nat) (K : Nat → jSh) (x : jM) (sz : Nat) : State → Prop := fun U => U.heap.size = sz ∧ va_P D vwCl (jW ad cy N K x) U.heap ∧ va_K D vwCl (jty cy) U ∧ va_D (fun _ => True) (jW ad cy N K x)
def jPost (D : va_G) (cy : Nat → ClassId) (ad : Nat → Nat) (N : Nat) (K : Nat → jSh) (A : Nat → Prop) (Qr : Option Value → jM → Prop) : Array Value → State → Outcome → State → Prop := fun _ st oc t => (∃ (r : Option Value) (x' : jM), oc = .returned (r.map (jv ad)) ∧ Qr r x' ∧ va_P D vwCl (jW ad cy N K x') t.heap ∧ va_K D vwCl (jty cy) t ∧ va_D A (jW ad cy N K x')) ∧ va_F A st t
/-- the method y does what T says, over every memory of the shape K -/
def jMet (l : Launch) (y : MethodName) (ws : List Cond) (rm : Room) (N : Nat) (K : Nat → jSh) (T : List Value → jM → (Option Value → jM → Prop) → Prop) : Prop := ∀ (D : va_G) (cy : Nat → ClassId) (ad : Nat → Nat) (as : List Value) (x : jM) (Qr : Option Value → jM → Prop) (sz : Nat), T as x Qr → Met l y ws rm (va_Pc (as.map (jv ad)) (jPre D cy ad N K x sz)) (jPost D cy ad N K (va_A (jW ad cy N K x) sz) Qr) 0 0 (va_A (jW ad cy N K x) sz)
theorem lw_good : ∀ w ∈ jt, goodWord w = true := fun _ h => (List.mem_filter.mp h).2
theorem jgood {Ts : List Cond} {w : Cond} (hT : ∀ w ∈ jt, w ∈ Ts) (h : w ∈ jt) : w ∈ Ts ∧ ((w.onTables && w.keeps) = true ∨ ∃ ty, w = .arrayClass ty) := ⟨hT w h, good_of_word (lw_good w h)⟩
theorem jgoodIn {Ts : List Cond} {w0 : Cond} (hT : ∀ w ∈ jt, w ∈ Ts) (h0 : w0 ∈ jt) : GoodIn Ts (w0 :: jt) := fun w hw => (List.mem_cons.mp hw).elim (fun e => e ▸ jgood hT h0) (fun h => jgood hT h)
section JC
variable {p : Program} {l : Launch} {e : Env} {R : Room} {s : State} {m : MethodId} {args : Array Value} {below : List Frame} {meth : Method} {c : Code} {cells slots : Nat} {Q : State → Prop}
variable {cc : ByteArray} {D : va_G} {cy : Nat → ClassId} {ad : Nat → Nat} {N nL : Nat} {K : Nat → jSh} {A : Nat → Prop} {own : String} {Ts : List Cond}
variable {pc : Nat} {L : List (Option Value)} {st : List Value} {x : jM}
theorem jblind {as : List Value} {sz : Nat} : FrameBlind (va_Pc as (jPre D cy ad N K x sz)) := fun a U g mk q => by
  obtain ⟨q0, q1, qP, qK, qD⟩ := q
  exact ⟨q0, q1, qP, va_K.moved (u := U) (U := U.calling g mk a) (Vm.Alike.refl U.vm) qK, qD⟩
theorem js_call {H : Heap} {locs : List Loc} {ls : Array Slot} {st0 rest : List Value} {a : Array Value} {Qr : Option Value → jM → Prop} (hr : va_Run p l e R s m args below meth c H locs cells slots 0 0 (F0 m pc ls st0) rest (jPost D cy ad N K (va_A (jW ad cy N K x) H.size) Qr a) (va_A (jW ad cy N K x) H.size)) (hS : va_S A s.heap H locs) (hF : ∀ q, va_A (jW ad cy N K x) H.size q → A q)
    (kk : ∀ (r : Option Value) (x' : jM) (H1 : Heap) (locs1 : List Loc), Qr r x' → va_P D vwCl (jW ad cy N K x') H1 → va_D A (jW ad cy N K x') → va_S A s.heap H1 locs1 → W p l e R s m args below meth c H1 locs1 cells slots Q (F0 m (pc + 3) ls ((r.map (jv ad)).toList ++ rest))) : W p l e R s m args below meth c H locs cells slots Q (F0 m pc ls st0) := by
  intro T hT X
  obtain ⟨v, st₀, t, T', L, h0, X', hL, e1, e2, ⟨⟨r, x', hv, hp, hP, hK, hD⟩, hz, hk⟩, st⟩ := hr T hT X
  cases hv
  rw [h0] at hz hk
  obtain ⟨t2, a1, b1⟩ := kk r x' T'.heap (locs ++ L) hp (by rw [e1]; exact hP) ⟨hD.1, fun k q hq => hF _ (hD.2 k q hq)⟩
    ⟨Nat.le_trans hS.1 (by rw [e1]; exact hz), fun q h1 h2 => by rw [e1, hk q (Nat.lt_of_lt_of_le h1 hS.1) (fun z => h2 (hF q z))]; exact hS.2.1 q h1 h2, fun q hq => by
      rcases List.mem_append.mp hq with h | h
      · exact hS.2.2 q h
      · exact hF _ (hL q h)⟩ T' rfl X'
  exact ⟨t2, st t2 a1, b1⟩
theorem js_hF {H : Heap} {locs : List Loc} (hA : ∀ q : Nat, s.heap.size ≤ q → A q) (hD : va_D A (jW ad cy N K x)) (hS : va_S A s.heap H locs) : ∀ q, va_A (jW ad cy N K x) H.size q → A q := by
  intro q h
  rcases h with ⟨k, e, h⟩ | h
  · exact hD.2 k _ h
  · exact hA q (Nat.le_trans hS.1 h)
theorem js_callV {y : MethodName} {bytes : ByteArray} {maxL ix n o tg : Nat} {ret : Option FieldType} {rm : Room} {T : List Value → jM → (Option Value → jM → Prop) → Prop} {Qr : Option Value → jM → Prop} {As r : List Value} {q : vw_C} (E : jE p R s m args c cells slots cc D cy nL A own Ts)
    (hO : jMet l y (.code y bytes maxL ret :: jt) rm N K T) (hrc : rm.cells = 0) (hrs : rm.slots = 0) (w1 : Cond.methodLink own ix y ∈ jt) (w2 : Cond.instanceMethod y ∈ jt) (w3 : Cond.selects y.cls y y ∈ jt) (w4 : Cond.initialized y.cls ∈ jt) (w5 : Cond.code y bytes maxL ret ∈ jt)
    (hd0 : y.cls ≠ "java/lang/invoke/MethodHandle" ∧ y.cls ≠ "java/lang/invoke/VarHandle" ∧ (parseMethodDescriptor y.desc).map (fun d => d.parameters.length) = some n) (hR : rm.frames + 1 ≤ R.frames ∧ 8 + (maxL + 11) + rm.locals ≤ R.locals)
    (hj : jar N K o tg = true) (hq : vwCl[tg]? = some q) (hqc : q.1 = y.cls) (hn : As.length = n) (hc : jcs r = true) (hd : decode cc pc = .ok (.invokevirtual ix, 3)) (hx : T (.ref o :: As) x Qr) (k : ∀ (rv : Option Value) (x' : jM), Qr rv x' → jT p l e R s m args below meth c cells slots Q D cy ad N nL K A (pc + 3) L (rv.toList ++ r) x') : jT p l e R s m args below meth c cells slots Q D cy ad N nL K A pc L (As.reverse ++ .ref o :: r) x := by
  intro H locs ls h1 h2 h3 h4
  obtain ⟨ho, ht⟩ := jar_spec hj
  have he := jW_at (ad := ad) (cy := cy) (K := K) (x := x) ho
  rw [jce_obj (by rw [ht]; exact vwCl_lt hq), ht] at he
  have hT := E.2.2.2.2.2.2.2.1
  have hK := E.2.2.2.2.2.1
  have cw := cwV (R := R) (s := s) (args := args) (own := own) (index := ix) (C := y.cls) (y := y) (bytes := bytes) (maxL := maxL) (ret := ret) (rm := rm) (mc := 0) (ms := 0) n E.2.2.2.2.1 (ws := .code y bytes maxL ret :: jt) (fun w hw => by
    rcases List.mem_append.mp hw with h | h
    · simp only [List.mem_cons, List.not_mem_nil, or_false] at h
      rcases h with rfl | rfl | rfl | rfl
      · exact jgood hT w1
      · exact jgood hT w2
      · exact jgood hT w3
      · exact jgood hT w4
    · exact jgoodIn hT w5 w h) rfl hrc hrs ⟨rfl, hd0⟩ hR
  have run := va_runV (p := p) (l := l) (e := e) (below := below) (meth := meth) (cells := cells) (slots := slots) (locs := locs) (H := H) (As := As.map (jv ad)) (b := ad o) (rest := r.map (jv ad)) (g := F0 m pc ls ((As.reverse ++ .ref o :: r).map (jv ad))) ⟨E.1, E.2.1, E.2.2.1, E.2.2.2.1, E.2.2.2.2.1⟩ (hO D cy ad (.ref o :: As) x Qr H.size hx) cw
    ⟨jblind, by obtain ⟨cell, c1, c2, c3⟩ := va_recv hK h1 hq he; exact ⟨cell, c1, c2, by rw [← hqc]; exact c3⟩, fun U hU hW => ⟨rfl, by rw [hU], by rw [hU]; exact h1, va_K.moved hW.alike hK, h2.1, fun _ _ _ => trivial⟩⟩ rfl (by rw [List.length_map]; exact hn) h4.1 (by simp [jv]) (lv_room (jcs_spec hc)) hd ⟨E.2.2.2.2.2.2.2.2.1, E.2.2.2.2.2.2.2.2.2⟩
  refine js_call run h3 (js_hF E.2.2.2.2.2.2.1 h2 h3) (fun rv x' H1 locs1 hq' hP hD hS => ?_)
  have := k rv x' hq' H1 locs1 ls hP hD hS h4
  cases rv with
  | none => simpa using this
  | some v => simpa using this
theorem js_callS {y : MethodName} {bytes : ByteArray} {maxL ix n : Nat} {ret : Option FieldType} {rm : Room} {T : List Value → jM → (Option Value → jM → Prop) → Prop} {Qr : Option Value → jM → Prop} {As r : List Value} (E : jE p R s m args c cells slots cc D cy nL A own Ts)
    (hO : jMet l y (.code y bytes maxL ret :: jt) rm N K T) (hrc : rm.cells = 0) (hrs : rm.slots = 0) (w1 : Cond.methodLink own ix y ∈ jt) (w2 : Cond.static y ∈ jt) (w4 : Cond.initialized y.cls ∈ jt) (w5 : Cond.code y bytes maxL ret ∈ jt)
    (hd0 : y.cls ≠ "java/lang/invoke/MethodHandle" ∧ y.cls ≠ "java/lang/invoke/VarHandle" ∧ (parseMethodDescriptor y.desc).map (fun d => d.parameters.length) = some n) (hR : rm.frames + 1 ≤ R.frames ∧ 8 + (maxL + 11) + rm.locals ≤ R.locals)
    (hn : As.length = n) (hc : jcs r = true) (hd : decode cc pc = .ok (.invokestatic ix, 3)) (hx : T As x Qr) (k : ∀ (rv : Option Value) (x' : jM), Qr rv x' → jT p l e R s m args below meth c cells slots Q D cy ad N nL K A (pc + 3) L (rv.toList ++ r) x') : jT p l e R s m args below meth c cells slots Q D cy ad N nL K A pc L (As.reverse ++ r) x := by
  intro H locs ls h1 h2 h3 h4
  have hT := E.2.2.2.2.2.2.2.1
  have hK := E.2.2.2.2.2.1
  have tw : ∀ w ∈ jt, w.before args s = true := fun w h => E.2.2.2.2.1 w (hT w h)
  have cw := callB_of (R := R) (s := s) (args := args) (own := own) (index := ix) (y := y) (bytes := bytes) (maxL := maxL) (ret := ret) (rm := rm) (mc := 0) (ms := 0) n E.2.2.2.2.1 (ws := .code y bytes maxL ret :: jt) (jgoodIn hT w5) rfl hrc hrs (tw _ w4) (tw _ w1) hd0 hR
  have run := va_runS (p := p) (l := l) (e := e) (below := below) (meth := meth) (cells := cells) (slots := slots) (locs := locs) (H := H) (As := As.map (jv ad)) (rest := r.map (jv ad)) (g := F0 m pc ls ((As.reverse ++ r).map (jv ad))) ⟨E.1, E.2.1, E.2.2.1, E.2.2.2.1, E.2.2.2.2.1⟩ (hO D cy ad As x Qr H.size hx) ⟨cw, tw _ w2⟩
    ⟨jblind, fun U hU hW => ⟨rfl, by rw [hU], by rw [hU]; exact h1, va_K.moved hW.alike hK, h2.1, fun _ _ _ => trivial⟩⟩ rfl (by rw [List.length_map]; exact hn) h4.1 (by simp) (lv_room (jcs_spec hc)) hd ⟨E.2.2.2.2.2.2.2.2.1, E.2.2.2.2.2.2.2.2.2⟩
  refine js_call run h3 (js_hF E.2.2.2.2.2.2.1 h2 h3) (fun rv x' H1 locs1 hq' hP hD hS => ?_)
  have := k rv x' hq' H1 locs1 ls hP hD hS h4
  cases rv with
  | none => simpa using this
  | some v => simpa using this
end JC
end
section
/-! THE CHECK of a method's code against its bytes, and that it is enough -/
theorem jpI_spec {st : List Value} {g : Int32 → List Value → Prop} (h : jpI st g) : ∃ v r, st = .int v :: r ∧ g v r := by
  unfold jpI at h
  split at h
  · exact ⟨_, _, rfl, h⟩
  · exact h.elim
theorem jpL_spec {st : List Value} {g : Int64 → List Value → Prop} (h : jpL st g) : ∃ v r, st = .long v :: r ∧ g v r := by
  unfold jpL at h
  split at h
  · exact ⟨_, _, rfl, h⟩
  · exact h.elim
theorem jpA_spec {st : List Value} {g : Nat → List Value → Prop} (h : jpA st g) : ∃ v r, st = .ref v :: r ∧ g v r := by
  unfold jpA at h
  split at h
  · exact ⟨_, _, rfl, h⟩
  · exact h.elim
theorem jp2_spec {st : List Value} {g : Int32 → Int32 → List Value → Prop} (h : jp2 st g) : ∃ v y r, st = .int y :: .int v :: r ∧ g v y r := by
  obtain ⟨y, r1, rfl, h1⟩ := jpI_spec h
  obtain ⟨v, r, rfl, h2⟩ := jpI_spec h1
  exact ⟨v, y, r, rfl, h2⟩
theorem jp2L_spec {st : List Value} {g : Int64 → Int64 → List Value → Prop} (h : jp2L st g) : ∃ v y r, st = .long y :: .long v :: r ∧ g v y r := by
  obtain ⟨y, r1, rfl, h1⟩ := jpL_spec h
  obtain ⟨v, r, rfl, h2⟩ := jpL_spec h1
  exact ⟨v, y, r, rfl, h2⟩
theorem jgI_spec {L : List (Option Value)} {j : Nat} {g : Int32 → Prop} (h : jgI L j g) : ∃ v, L[j]? = some (some (.int v)) ∧ g v := by
  unfold jgI at h
  split at h
  · exact ⟨_, by assumption, h⟩
  · exact h.elim
theorem jgL_spec {L : List (Option Value)} {j : Nat} {g : Int64 → Prop} (h : jgL L j g) : ∃ v, L[j]? = some (some (.long v)) ∧ g v := by
  unfold jgL at h
  split at h
  · exact ⟨_, by assumption, h⟩
  · exact h.elim
theorem jgA_spec {L : List (Option Value)} {j : Nat} {g : Nat → Prop} (h : jgA L j g) : ∃ v, L[j]? = some (some (.ref v)) ∧ g v := by
  unfold jgA at h
  split at h
  · exact ⟨_, by assumption, h⟩
  · exact h.elim
theorem jrk_spec {k : Nat} {g0 : Prop} {g : Nat → Prop} (h : jrk k g0 g) : (k = 0 ∧ g0) ∨ ∃ j, k = j + 2 ∧ g j := by
  match k, h with
  | 0, h => exact Or.inl ⟨rfl, h⟩
  | 1, h => exact h.elim
  | j + 2, h => exact Or.inr ⟨j, rfl, h⟩
theorem jsw_spec {v : Int} {G : Nat → Prop} {d : Nat} : ∀ {l : List (Int × Nat)}, jsw v G d l → (∃ q, q ∈ l ∧ v = q.1 ∧ G q.2) ∨ ((∀ q ∈ l, ¬ v = q.1) ∧ G d)
  | [], h => Or.inr ⟨fun _ h => absurd h List.not_mem_nil, h⟩
  | q :: r, h => by
    by_cases hv : v = q.1
    · exact Or.inl ⟨q, List.mem_cons_self, hv, h.1 hv⟩
    · rcases jsw_spec (h.2 hv) with ⟨q', h1, h2⟩ | ⟨h1, h2⟩
      · exact Or.inl ⟨q', List.mem_cons_of_mem _ h1, h2⟩
      · exact Or.inr ⟨fun q' hq => (List.mem_cons.mp hq).elim (fun e => e ▸ hv) (h1 q'), h2⟩
theorem jlook {G : Nat → Prop} {d : Nat} : ∀ (l : List (Int × Int)) (tf : Nat → Nat) (dd k : Int), jsw k G d ((List.range l.length).map (fun j : Nat => ((l.getD j (0, 0)).1, tf j))) → (∃ j : Nat, j < l.length ∧ Op.lookupswitch.offset l dd k = (l.getD j (0, 0)).2 ∧ G (tf j)) ∨ (Op.lookupswitch.offset l dd k = dd ∧ G d)
  | [], tf, dd, k, h => Or.inr ⟨rfl, h⟩
  | (a, o) :: r, tf, dd, k, h => by
    rw [Op.lookupswitch.offset_cons]
    rw [List.length_cons, List.range_succ_eq_map, List.map_cons, List.map_map] at h
    by_cases hk : k = a
    · exact Or.inl ⟨0, Nat.zero_lt_succ _, by rw [if_pos hk.symm]; rfl, h.1 hk⟩
    · rw [if_neg (fun e => hk e.symm)]
      rcases jlook r (fun j => tf (j + 1)) dd k (h.2 hk) with ⟨j, h1, h2, h3⟩ | h1
      · exact Or.inl ⟨j + 1, Nat.succ_lt_succ h1, h2, h3⟩
      · exact Or.inr h1
def jrm (r : jR) : Room := { frames := r.2.2.2.2.2.2.1, cells := 0, slots := 0, locals := r.2.2.2.2.2.2.2 }
def jnx (code : List jI) (k pc : Nat) : Bool := match code[k]? with
  | some q => q.1 == pc
  | none => false
def jnI (code : List jI) (k : Nat) (pc : Int) : Bool := match code[k]? with
  | some q => decide (pc = (q.1 : Int))
  | none => false
theorem jnI_spec {code : List jI} {k : Nat} {pc : Int} (h : jnI code k pc = true) : ∃ t : Nat, pc = (t : Int) ∧ jnx code k t = true := by
  unfold jnI at h
  split at h
  · next q hq => exact ⟨q.1, by simpa using h, by simp [jnx, hq]⟩
  · cases h
def jlk (own ix : Nat) (a : Int) (q : Nat × Nat × Int × Nat) : Bool := q.1 == own && (q.2.1 == ix && q.2.2.1 == a)
def jlf (own ix a b : Nat) (q : Nat × Nat × Nat × Nat × Nat) : Bool := q.1 == own && (q.2.1 == ix && (q.2.2.1 == a && q.2.2.2.1 == b))
def jlm (own ix a : Nat) (q : Nat × Nat × Nat × Nat) : Bool := q.1 == own && (q.2.1 == ix && q.2.2.1 == a)
theorem jKi_in {own ix : Nat} {v : Int} (h : jKi.any (jlk own ix v) = true) : Cond.constant (jcn own) ix (jc v) ∈ jt := by
  obtain ⟨q, hq, h⟩ := List.any_eq_true.mp h
  have h0 := jat_in (List.all_eq_true.mp jKi_ok q hq)
  simp only [jlk, Bool.and_eq_true, beq_iff_eq] at h
  rw [h.1, h.2.1, h.2.2] at h0
  exact h0
theorem jKj_in {own ix : Nat} {v : Int} (h : jKj.any (jlk own ix v) = true) : Cond.constantLong (jcn own) ix (jcl v) ∈ jt := by
  obtain ⟨q, hq, h⟩ := List.any_eq_true.mp h
  have h0 := jat_in (List.all_eq_true.mp jKj_ok q hq)
  simp only [jlk, Bool.and_eq_true, beq_iff_eq] at h
  rw [h.1, h.2.1, h.2.2] at h0
  exact h0
theorem jFl_in {own ix a b : Nat} (h : jFl.any (jlf own ix a b) = true) : ∃ r : vw_C, vwCl[a]? = some r ∧ b < r.2.2 ∧ Cond.fieldLink (jcn own) ix (r.2.1 b).1 (r.2.1 b).2.1 (r.2.1 b).2.2.1 ∈ jt := by
  obtain ⟨q, hq, h⟩ := List.any_eq_true.mp h
  have h0 := List.all_eq_true.mp jFl_ok q hq
  simp only [jlf, Bool.and_eq_true, beq_iff_eq] at h
  obtain ⟨e1, e2, e3, e4⟩ := h
  unfold jFok at h0
  rw [e3, e4, e1, e2] at h0
  split at h0
  · next r hr =>
    simp only [Bool.and_eq_true, decide_eq_true_eq] at h0
    exact ⟨r, hr, h0.1, jat_in h0.2⟩
  · cases h0
theorem jMl_in {own ix a : Nat} {r : jR} (h : jMl.any (jlm own ix a) = true) (hr : jMt[a]? = some r) : Cond.methodLink (jcn own) ix r.1 ∈ jt := by
  obtain ⟨q, hq, h⟩ := List.any_eq_true.mp h
  have h0 := List.all_eq_true.mp jMl_ok q hq
  simp only [jlm, Bool.and_eq_true, beq_iff_eq] at h
  obtain ⟨e1, e2, e3⟩ := h
  unfold jMok at h0
  rw [e3, e1, e2, hr] at h0
  exact jat_in h0
theorem jBl_in {own ix a : Nat} (h : jBl.any (jlm own ix a) = true) : Cond.methodLink (jcn own) ix (jbn a) ∈ jt := by
  obtain ⟨q, hq, h⟩ := List.any_eq_true.mp h
  have h0 := jat_in (List.all_eq_true.mp jBl_ok q hq)
  simp only [jlm, Bool.and_eq_true, beq_iff_eq] at h
  rw [h.1, h.2.1, h.2.2] at h0
  exact h0
theorem jMt_at {a : Nat} {r : jR} (h : jMt[a]? = some r) : ∃ z, jRok r z = true := by
  have key : ∀ (d : Nat), d ≤ a → a < d + 20 → (((jMt.drop d).take 20).zip ((jMp.drop d).take 20)).all (fun q => jRok q.1 q.2) = true → ∃ z, jRok r z = true := by
    intro d h1 h2 hall
    have hl : a < jMt.length := (List.getElem?_eq_some_iff.mp h).1
    have hlen : jMt.length = jMp.length := by decide +kernel
    have hz : ∃ z, jMp[a]? = some z := ⟨_, List.getElem?_eq_getElem (by omega)⟩
    obtain ⟨z, hz⟩ := hz
    refine ⟨z, List.all_eq_true.mp hall (r, z) (List.mem_of_getElem? (i := a - d) ?_)⟩
    rw [List.getElem?_zip_eq_some]
    rw [List.getElem?_take, List.getElem?_take, List.getElem?_drop, List.getElem?_drop, if_pos (by omega), if_pos (by omega), show d + (a - d) = a by omega]
    exact ⟨h, hz⟩
  have hl : a < jMt.length := (List.getElem?_eq_some_iff.mp h).1
  have hn : jMt.length = 156 := by decide +kernel
  rcases (show (0 ≤ a ∧ a < 20) ∨ (20 ≤ a ∧ a < 40) ∨ (40 ≤ a ∧ a < 60) ∨ (60 ≤ a ∧ a < 80) ∨ (80 ≤ a ∧ a < 100) ∨ (100 ≤ a ∧ a < 120) ∨ (120 ≤ a ∧ a < 140) ∨ (140 ≤ a ∧ a < 160) by omega) with h1 | h1 | h1 | h1 | h1 | h1 | h1 | h1
  · exact key 0 (by omega) (by omega) jMt_ok_0
  · exact key 20 (by omega) (by omega) jMt_ok_1
  · exact key 40 (by omega) (by omega) jMt_ok_2
  · exact key 60 (by omega) (by omega) jMt_ok_3
  · exact key 80 (by omega) (by omega) jMt_ok_4
  · exact key 100 (by omega) (by omega) jMt_ok_5
  · exact key 120 (by omega) (by omega) jMt_ok_6
  · exact key 140 (by omega) (by omega) jMt_ok_7
/-- what the tables say of a method -/
theorem jMt_words {a : Nat} {r : jR} (h : jMt[a]? = some r) : Cond.code r.1 r.2.1 r.2.2.1 r.2.2.2.1 ∈ jt ∧ Cond.initialized r.1.cls ∈ jt ∧ (r.1.cls ≠ "java/lang/invoke/MethodHandle" ∧ r.1.cls ≠ "java/lang/invoke/VarHandle" ∧ (parseMethodDescriptor r.1.desc).map (fun d => d.parameters.length) = some r.2.2.2.2.1) ∧ plainName r.1.cls = true ∧ ((∃ q, vwCl[r.2.2.2.2.2.1]? = some q ∧ q.1 = r.1.cls ∧ Cond.instanceMethod r.1 ∈ jt ∧ Cond.selects r.1.cls r.1 r.1 ∈ jt) ∨ (vwCl[r.2.2.2.2.2.1]? = none ∧ Cond.static r.1 ∈ jt)) := by
  obtain ⟨z, hz⟩ := jMt_at h
  simp only [jRok, Bool.and_eq_true, decide_eq_true_eq] at hz
  obtain ⟨h1, h2, h3, h4, h5, h6⟩ := hz
  refine ⟨jat_in h1, jat_in h2, ⟨h3.1, h3.2, h4⟩, h5, ?_⟩
  split at h6
  · next q hq =>
    simp only [Bool.and_eq_true, decide_eq_true_eq] at h6
    exact Or.inl ⟨q, hq, h6.1, jat_in h6.2.1, jat_in h6.2.2⟩
  · next hq => exact Or.inr ⟨hq, jat_in h6⟩

def jok2 (oi : Nat) (ret : Option FieldType) (Rf Rl : Nat) (code : List jI) (k : Nat) (q : jI) : Bool :=
  match q with
  | (pc, i, len, a, b, cv, ts) => match i with
    | .iconst n => len == 1 && (jnx code (k + 1) (pc + 1) && decide (Int32.ofInt n = jc cv))
    | .bipush n => len == 2 && (jnx code (k + 1) (pc + 2) && decide ((Int8.ofInt n).toInt32 = jc cv))
    | .sipush n => len == 3 && (jnx code (k + 1) (pc + 3) && decide ((Int16.ofInt n).toInt32 = jc cv))
    | .ldc n => len == 2 && (jnx code (k + 1) (pc + 2) && jKi.any (jlk oi n cv))
    | .ldc_w n => len == 3 && (jnx code (k + 1) (pc + 3) && jKi.any (jlk oi n cv))
    | .ldc2_w n => len == 3 && (jnx code (k + 1) (pc + 3) && jKj.any (jlk oi n cv))
    | .lconst n => len == 1 && (jnx code (k + 1) (pc + 1) && decide (Int64.ofNat (n : Nat) = jcl cv))
    | .iload_n n => len == 1 && (jnx code (k + 1) (pc + 1) && (n : Nat) == a)
    | .iload n => len == 2 && (jnx code (k + 1) (pc + 2) && n == a)
    | .lload_n n => len == 1 && (jnx code (k + 1) (pc + 1) && (n : Nat) == a)
    | .lload n => len == 2 && (jnx code (k + 1) (pc + 2) && n == a)
    | .aload_n n => len == 1 && (jnx code (k + 1) (pc + 1) && (n : Nat) == a)
    | .istore_n n => len == 1 && (jnx code (k + 1) (pc + 1) && (n : Nat) == a)
    | .istore n => len == 2 && (jnx code (k + 1) (pc + 2) && n == a)
    | .lstore_n n => len == 1 && (jnx code (k + 1) (pc + 1) && (n : Nat) == a)
    | .lstore n => len == 2 && (jnx code (k + 1) (pc + 2) && n == a)
    | .iinc n w => len == 3 && (jnx code (k + 1) (pc + 3) && (n == a && decide (Int32.ofInt w = jc cv)))
    | .iadd => len == 1 && jnx code (k + 1) (pc + 1)
    | .isub => len == 1 && jnx code (k + 1) (pc + 1)
    | .imul => len == 1 && jnx code (k + 1) (pc + 1)
    | .iand => len == 1 && jnx code (k + 1) (pc + 1)
    | .ior => len == 1 && jnx code (k + 1) (pc + 1)
    | .ixor => len == 1 && jnx code (k + 1) (pc + 1)
    | .ishl => len == 1 && jnx code (k + 1) (pc + 1)
    | .ishr => len == 1 && jnx code (k + 1) (pc + 1)
    | .iushr => len == 1 && jnx code (k + 1) (pc + 1)
    | .idiv => len == 1 && jnx code (k + 1) (pc + 1)
    | .irem => len == 1 && jnx code (k + 1) (pc + 1)
    | .ladd => len == 1 && jnx code (k + 1) (pc + 1)
    | .lmul => len == 1 && jnx code (k + 1) (pc + 1)
    | .lcmp => len == 1 && jnx code (k + 1) (pc + 1)
    | .ldiv => len == 1 && jnx code (k + 1) (pc + 1)
    | .lrem => len == 1 && jnx code (k + 1) (pc + 1)
    | .ineg => len == 1 && jnx code (k + 1) (pc + 1)
    | .i2l => len == 1 && jnx code (k + 1) (pc + 1)
    | .l2i => len == 1 && jnx code (k + 1) (pc + 1)
    | .dup => len == 1 && jnx code (k + 1) (pc + 1)
    | .dup2 => len == 1 && jnx code (k + 1) (pc + 1)
    | .getfield n => len == 3 && (jnx code (k + 1) (pc + 3) && jFl.any (jlf oi n a b))
    | .putfield n => len == 3 && (jnx code (k + 1) (pc + 3) && (jFl.any (jlf oi n a b) && (match vwCl[a]? with
      | some r => !(r.2.1 b).2.2.2 && decide (parseFieldDescriptor (r.2.1 b).2.2.1 = some (if cv = 1 then .boolean else .int))
      | none => false)))
    | .iaload => len == 1 && jnx code (k + 1) (pc + 1)
    | .baload => len == 1 && jnx code (k + 1) (pc + 1)
    | .iastore => len == 1 && jnx code (k + 1) (pc + 1)
    | .bastore => len == 1 && jnx code (k + 1) (pc + 1)
    | .aaload => len == 1 && jnx code (k + 1) (pc + 1)
    | .goto off => len == 3 && jnI code (ts.getD 0 0) ((pc : Int) + off)
    | .ifCond cd off => len == 3 && (jnx code (k + 1) (pc + 3) && jnI code (ts.getD 0 0) ((pc : Int) + off))
    | .if_icmp cd off => len == 3 && (jnx code (k + 1) (pc + 3) && jnI code (ts.getD 0 0) ((pc : Int) + off))
    | .tableswitch dflt lo hi offs => jnI code (ts.getD 0 0) ((pc : Int) + dflt) && (decide (ts.length = offs.size + 1) && (decide ((offs.size : Int) = hi - lo + 1) && (List.range offs.size).all (fun j => jnI code (ts.getD (j + 1) 0) ((pc : Int) + offs.getD j 0))))
    | .lookupswitch dflt ps => jnI code (ts.getD 0 0) ((pc : Int) + dflt) && (decide (ts.length = ps.toList.length + 1) && ((ps.toList.zip (ps.toList.drop 1)).all (fun (a, next) => a.1 < next.1) && (List.range ps.toList.length).all (fun j => jnI code (ts.getD (j + 1) 0) ((pc : Int) + (ps.toList.getD j (0, 0)).2))))
    | .invokevirtual n => len == 3 && (jnx code (k + 1) (pc + 3) && (jMl.any (jlm oi n a) && (match jMt[a]? with
      | some r => r.2.2.2.2.1 == b && (r.2.2.2.2.2.1 == cv.toNat && (decide (r.2.2.2.2.2.1 < 8) && (decide (r.2.2.2.2.2.2.1 + 1 ≤ Rf) && decide (8 + (r.2.2.1 + 11) + r.2.2.2.2.2.2.2 ≤ Rl))))
      | none => false)))
    | .invokestatic n => len == 3 && (jnx code (k + 1) (pc + 3) && (match cv with
      | 0 => jMl.any (jlm oi n a) && (match jMt[a]? with
        | some r => r.2.2.2.2.1 == b && (r.2.2.2.2.2.1 == 99 && (decide (r.2.2.2.2.2.2.1 + 1 ≤ Rf) && decide (8 + (r.2.2.1 + 11) + r.2.2.2.2.2.2.2 ≤ Rl)))
        | none => false)
      | 1 => jBl.any (jlm oi n 1) && (decide (1 ≤ Rf) && decide (21 ≤ Rl))
      | 2 => jBl.any (jlm oi n 2) && (decide (1 ≤ Rf) && decide (21 ≤ Rl))
      | 3 => jBl.any (jlm oi n 3) && (decide (1 ≤ Rf) && decide (21 ≤ Rl))
      | 4 => jBl.any (jlm oi n 4) && (decide (1 ≤ Rf) && decide (26 ≤ Rl))
      | _ => false))
    | .ireturn => len == 1 && (decide (ret = some .int) || (decide (ret = some .boolean) && decide (cv = 1)))
    | .return_ => len == 1 && decide (ret = none)
    | _ => false
def jok (oi : Nat) (cc : ByteArray) (ret : Option FieldType) (Rf Rl : Nat) (code : List jI) (k : Nat) (q : jI) : Bool := decide (decode cc q.1 = .ok (q.2.1, q.2.2.1)) && jok2 oi ret Rf Rl code k q
section JX
variable {p : Program} {l : Launch} {e : Env} {R : Room} {s : State} {m : MethodId} {args : Array Value} {below : List Frame} {meth : Method} {c : Code} {cells slots : Nat} {Q : State → Prop}
variable {cc : ByteArray} {D : va_G} {cy : Nat → ClassId} {ad : Nat → Nat} {N nL : Nat} {K : Nat → jSh} {A : Nat → Prop} {Ts : List Cond}
set_option maxHeartbeats 4000000 in
theorem jx_ok {L : List (Option Value)} {st : List Value} {x : jM} {O : jO} {code : List jI} {G : jG} {Qr : Option Value → jM → Prop} {oi k : Nat} {ret : Option FieldType} {q : jI} (E : jE p R s m args c cells slots cc D cy nL A (jcn oi) Ts)
    (hO : ∀ (a : Nat) (r : jR), jMt[a]? = some r → jMet l r.1 (.code r.1 r.2.1 r.2.2.1 r.2.2.2.1 :: jt) (jrm r) N K (O a))
    (hok : jok oi cc ret R.frames R.locals code k q = true)
    (hG : ∀ (k' pc' : Nat) (L' : List (Option Value)) (st' : List Value) (x' : jM), jnx code k' pc' = true → G k' L' st' x' → jT p l e R s m args below meth c cells slots Q D cy ad N nL K A pc' L' st' x')
    (hI : ∀ (v : Int32) (pc' : Nat) (L' : List (Option Value)) (x' : jM), decode cc pc' = .ok (.ireturn, 1) → (ret = some .int ∨ (ret = some .boolean ∧ (v = 0 ∨ v = 1))) → Qr (some (.int v)) x' → jT p l e R s m args below meth c cells slots Q D cy ad N nL K A pc' L' [.int v] x')
    (hV : ∀ (pc' : Nat) (L' : List (Option Value)) (x' : jM), decode cc pc' = .ok (.return_, 1) → ret = none → Qr none x' → jT p l e R s m args below meth c cells slots Q D cy ad N nL K A pc' L' [] x')
    (hx : jx O N K G Qr q k L st x) : jT p l e R s m args below meth c cells slots Q D cy ad N nL K A q.1 L st x := by
  obtain ⟨pc, i, len, a, b, cv, ts⟩ := q
  simp only [jok, Bool.and_eq_true, decide_eq_true_eq] at hok
  obtain ⟨hd, hok⟩ := hok
  show jT p l e R s m args below meth c cells slots Q D cy ad N nL K A pc L st x
  cases i with
  | iconst n =>
    simp only [jok2, Bool.and_eq_true, beq_iff_eq, decide_eq_true_eq] at hok
    obtain ⟨rfl, h1, h2⟩ := hok
    exact js_iconst E hd h2 (hG _ _ _ _ _ h1 hx)
  | bipush n =>
    simp only [jok2, Bool.and_eq_true, beq_iff_eq, decide_eq_true_eq] at hok
    obtain ⟨rfl, h1, h2⟩ := hok
    exact js_bipush E hd h2 (hG _ _ _ _ _ h1 hx)
  | sipush n =>
    simp only [jok2, Bool.and_eq_true, beq_iff_eq, decide_eq_true_eq] at hok
    obtain ⟨rfl, h1, h2⟩ := hok
    exact js_sipush E hd h2 (hG _ _ _ _ _ h1 hx)
  | ldc n =>
    simp only [jok2, Bool.and_eq_true, beq_iff_eq, decide_eq_true_eq] at hok
    obtain ⟨rfl, h1, h2⟩ := hok
    exact js_ldc E (jKi_in h2) hd (hG _ _ _ _ _ h1 hx)
  | ldc_w n =>
    simp only [jok2, Bool.and_eq_true, beq_iff_eq, decide_eq_true_eq] at hok
    obtain ⟨rfl, h1, h2⟩ := hok
    exact js_ldcw E (jKi_in h2) hd (hG _ _ _ _ _ h1 hx)
  | ldc2_w n =>
    simp only [jok2, Bool.and_eq_true, beq_iff_eq, decide_eq_true_eq] at hok
    obtain ⟨rfl, h1, h2⟩ := hok
    exact js_ldc2 E (jKj_in h2) hd (hG _ _ _ _ _ h1 hx)
  | lconst n =>
    simp only [jok2, Bool.and_eq_true, beq_iff_eq, decide_eq_true_eq] at hok
    obtain ⟨rfl, h1, h2⟩ := hok
    exact js_lconst E hd h2 (hG _ _ _ _ _ h1 hx)
  | iload_n n =>
    simp only [jok2, Bool.and_eq_true, beq_iff_eq, decide_eq_true_eq] at hok
    obtain ⟨rfl, h1, h2⟩ := hok
    obtain ⟨v, hl, hx⟩ := jgI_spec hx
    exact js_iload_n E hd h2 hl (hG _ _ _ _ _ h1 hx)
  | iload n =>
    simp only [jok2, Bool.and_eq_true, beq_iff_eq, decide_eq_true_eq] at hok
    obtain ⟨rfl, h1, rfl⟩ := hok
    obtain ⟨v, hl, hx⟩ := jgI_spec hx
    exact js_iload E hd hl (hG _ _ _ _ _ h1 hx)
  | lload_n n =>
    simp only [jok2, Bool.and_eq_true, beq_iff_eq, decide_eq_true_eq] at hok
    obtain ⟨rfl, h1, h2⟩ := hok
    obtain ⟨v, hl, hx⟩ := jgL_spec hx
    exact js_lload_n E hd h2 hl (hG _ _ _ _ _ h1 hx)
  | lload n =>
    simp only [jok2, Bool.and_eq_true, beq_iff_eq, decide_eq_true_eq] at hok
    obtain ⟨rfl, h1, rfl⟩ := hok
    obtain ⟨v, hl, hx⟩ := jgL_spec hx
    exact js_lload E hd hl (hG _ _ _ _ _ h1 hx)
  | aload_n n =>
    simp only [jok2, Bool.and_eq_true, beq_iff_eq, decide_eq_true_eq] at hok
    obtain ⟨rfl, h1, h2⟩ := hok
    obtain ⟨v, hl, hx⟩ := jgA_spec hx
    exact js_aload_n E hd h2 hl (hG _ _ _ _ _ h1 hx)
  | istore_n n =>
    simp only [jok2, Bool.and_eq_true, beq_iff_eq, decide_eq_true_eq] at hok
    obtain ⟨rfl, h1, h2⟩ := hok
    obtain ⟨v, r, rfl, hx⟩ := jpI_spec hx
    obtain ⟨hs, hx⟩ := jB_spec hx
    exact js_istore_n E hd h2 hs (hG _ _ _ _ _ h1 hx)
  | istore n =>
    simp only [jok2, Bool.and_eq_true, beq_iff_eq, decide_eq_true_eq] at hok
    obtain ⟨rfl, h1, rfl⟩ := hok
    obtain ⟨v, r, rfl, hx⟩ := jpI_spec hx
    obtain ⟨hs, hx⟩ := jB_spec hx
    exact js_istore E hd hs (hG _ _ _ _ _ h1 hx)
  | lstore_n n =>
    simp only [jok2, Bool.and_eq_true, beq_iff_eq, decide_eq_true_eq] at hok
    obtain ⟨rfl, h1, h2⟩ := hok
    obtain ⟨v, r, rfl, hx⟩ := jpL_spec hx
    obtain ⟨hs, hx⟩ := jB_spec hx
    simp only [Bool.and_eq_true, decide_eq_true_eq] at hs
    exact js_lstore_n E hd h2 hs.1 hs.2 (hG _ _ _ _ _ h1 hx)
  | lstore n =>
    simp only [jok2, Bool.and_eq_true, beq_iff_eq, decide_eq_true_eq] at hok
    obtain ⟨rfl, h1, rfl⟩ := hok
    obtain ⟨v, r, rfl, hx⟩ := jpL_spec hx
    obtain ⟨hs, hx⟩ := jB_spec hx
    simp only [Bool.and_eq_true, decide_eq_true_eq] at hs
    exact js_lstore E hd hs.1 hs.2 (hG _ _ _ _ _ h1 hx)
  | iinc n w =>
    simp only [jok2, Bool.and_eq_true, beq_iff_eq, decide_eq_true_eq] at hok
    obtain ⟨rfl, h1, rfl, h2⟩ := hok
    obtain ⟨v, hl, hx⟩ := jgI_spec hx
    obtain ⟨hs, hx⟩ := jB_spec hx
    exact js_iinc E hd hl (by rw [h2]) hs (hG _ _ _ _ _ h1 hx)
  | iadd =>
    simp only [jok2, Bool.and_eq_true, beq_iff_eq, decide_eq_true_eq] at hok
    obtain ⟨rfl, h1⟩ := hok
    obtain ⟨v, y, r, rfl, hx⟩ := jp2_spec hx
    exact js_iadd E hd (hG _ _ _ _ _ h1 hx)
  | isub =>
    simp only [jok2, Bool.and_eq_true, beq_iff_eq, decide_eq_true_eq] at hok
    obtain ⟨rfl, h1⟩ := hok
    obtain ⟨v, y, r, rfl, hx⟩ := jp2_spec hx
    exact js_isub E hd (hG _ _ _ _ _ h1 hx)
  | imul =>
    simp only [jok2, Bool.and_eq_true, beq_iff_eq, decide_eq_true_eq] at hok
    obtain ⟨rfl, h1⟩ := hok
    obtain ⟨v, y, r, rfl, hx⟩ := jp2_spec hx
    exact js_imul E hd (hG _ _ _ _ _ h1 hx)
  | iand =>
    simp only [jok2, Bool.and_eq_true, beq_iff_eq, decide_eq_true_eq] at hok
    obtain ⟨rfl, h1⟩ := hok
    obtain ⟨v, y, r, rfl, hx⟩ := jp2_spec hx
    exact js_iand E hd (hG _ _ _ _ _ h1 hx)
  | ior =>
    simp only [jok2, Bool.and_eq_true, beq_iff_eq, decide_eq_true_eq] at hok
    obtain ⟨rfl, h1⟩ := hok
    obtain ⟨v, y, r, rfl, hx⟩ := jp2_spec hx
    exact js_ior E hd (hG _ _ _ _ _ h1 hx)
  | ixor =>
    simp only [jok2, Bool.and_eq_true, beq_iff_eq, decide_eq_true_eq] at hok
    obtain ⟨rfl, h1⟩ := hok
    obtain ⟨v, y, r, rfl, hx⟩ := jp2_spec hx
    exact js_ixor E hd (hG _ _ _ _ _ h1 hx)
  | ishl =>
    simp only [jok2, Bool.and_eq_true, beq_iff_eq, decide_eq_true_eq] at hok
    obtain ⟨rfl, h1⟩ := hok
    obtain ⟨v, y, r, rfl, hx⟩ := jp2_spec hx
    exact js_ishl E hd (hG _ _ _ _ _ h1 hx)
  | ishr =>
    simp only [jok2, Bool.and_eq_true, beq_iff_eq, decide_eq_true_eq] at hok
    obtain ⟨rfl, h1⟩ := hok
    obtain ⟨v, y, r, rfl, hx⟩ := jp2_spec hx
    exact js_ishr E hd (hG _ _ _ _ _ h1 hx)
  | iushr =>
    simp only [jok2, Bool.and_eq_true, beq_iff_eq, decide_eq_true_eq] at hok
    obtain ⟨rfl, h1⟩ := hok
    obtain ⟨v, y, r, rfl, hx⟩ := jp2_spec hx
    exact js_iushr E hd rfl (hG _ _ _ _ _ h1 hx)
  | idiv =>
    simp only [jok2, Bool.and_eq_true, beq_iff_eq, decide_eq_true_eq] at hok
    obtain ⟨rfl, h1⟩ := hok
    obtain ⟨v, y, r, rfl, hn, hx⟩ := jp2_spec hx
    exact js_idiv E hd hn (hG _ _ _ _ _ h1 hx)
  | irem =>
    simp only [jok2, Bool.and_eq_true, beq_iff_eq, decide_eq_true_eq] at hok
    obtain ⟨rfl, h1⟩ := hok
    obtain ⟨v, y, r, rfl, hn, hx⟩ := jp2_spec hx
    exact js_irem E hd hn (hG _ _ _ _ _ h1 hx)
  | ladd =>
    simp only [jok2, Bool.and_eq_true, beq_iff_eq, decide_eq_true_eq] at hok
    obtain ⟨rfl, h1⟩ := hok
    obtain ⟨v, y, r, rfl, hx⟩ := jp2L_spec hx
    exact js_ladd E hd (hG _ _ _ _ _ h1 hx)
  | lmul =>
    simp only [jok2, Bool.and_eq_true, beq_iff_eq, decide_eq_true_eq] at hok
    obtain ⟨rfl, h1⟩ := hok
    obtain ⟨v, y, r, rfl, hx⟩ := jp2L_spec hx
    exact js_lmul E hd (hG _ _ _ _ _ h1 hx)
  | lcmp =>
    simp only [jok2, Bool.and_eq_true, beq_iff_eq, decide_eq_true_eq] at hok
    obtain ⟨rfl, h1⟩ := hok
    obtain ⟨v, y, r, rfl, hx⟩ := jp2L_spec hx
    exact js_lcmp E hd (hG _ _ _ _ _ h1 hx)
  | ldiv =>
    simp only [jok2, Bool.and_eq_true, beq_iff_eq, decide_eq_true_eq] at hok
    obtain ⟨rfl, h1⟩ := hok
    obtain ⟨v, y, r, rfl, hn, hx⟩ := jp2L_spec hx
    exact js_ldiv E hd hn (hG _ _ _ _ _ h1 hx)
  | lrem =>
    simp only [jok2, Bool.and_eq_true, beq_iff_eq, decide_eq_true_eq] at hok
    obtain ⟨rfl, h1⟩ := hok
    obtain ⟨v, y, r, rfl, hn, hx⟩ := jp2L_spec hx
    exact js_lrem E hd hn (hG _ _ _ _ _ h1 hx)
  | ineg =>
    simp only [jok2, Bool.and_eq_true, beq_iff_eq, decide_eq_true_eq] at hok
    obtain ⟨rfl, h1⟩ := hok
    obtain ⟨v, r, rfl, hx⟩ := jpI_spec hx
    exact js_ineg E hd (hG _ _ _ _ _ h1 hx)
  | i2l =>
    simp only [jok2, Bool.and_eq_true, beq_iff_eq, decide_eq_true_eq] at hok
    obtain ⟨rfl, h1⟩ := hok
    obtain ⟨v, r, rfl, hx⟩ := jpI_spec hx
    exact js_i2l E hd (hG _ _ _ _ _ h1 hx)
  | l2i =>
    simp only [jok2, Bool.and_eq_true, beq_iff_eq, decide_eq_true_eq] at hok
    obtain ⟨rfl, h1⟩ := hok
    obtain ⟨v, r, rfl, hx⟩ := jpL_spec hx
    exact js_l2i E hd (hG _ _ _ _ _ h1 hx)
  | dup =>
    simp only [jok2, Bool.and_eq_true, beq_iff_eq, decide_eq_true_eq] at hok
    obtain ⟨rfl, h1⟩ := hok
    cases st with
    | nil => exact False.elim hx
    | cons v r =>
      obtain ⟨hs, hx⟩ := jB_spec hx
      exact js_dup E hd (by simpa using hs) (hG _ _ _ _ _ h1 hx)
  | dup2 =>
    simp only [jok2, Bool.and_eq_true, beq_iff_eq, decide_eq_true_eq] at hok
    obtain ⟨rfl, h1⟩ := hok
    match st, hx with
    | [], hx => exact False.elim hx
    | [_], hx => exact False.elim hx
    | v :: w :: r, hx =>
      obtain ⟨hs, hx⟩ := jB_spec hx
      simp only [Bool.and_eq_true, beq_iff_eq] at hs
      exact js_dup2 E hd hs.1 hs.2 (hG _ _ _ _ _ h1 hx)
  | getfield n =>
    simp only [jok2, Bool.and_eq_true, beq_iff_eq, decide_eq_true_eq] at hok
    obtain ⟨rfl, h1, h2⟩ := hok
    obtain ⟨q, hq, hb, hw⟩ := jFl_in h2
    obtain ⟨o, r, rfl, hx⟩ := jpA_spec hx
    obtain ⟨hj, hx⟩ := jB_spec hx
    rcases jrk_spec hx with ⟨hk, hx⟩ | ⟨j, hk, hx⟩
    · exact js_get (v := .int (x o b)) E hq hb hw hj hd (by rw [hk]; rfl) (hG _ _ _ _ _ h1 hx)
    · exact js_get (v := .ref j) E hq hb hw hj hd (by rw [hk]; rfl) (hG _ _ _ _ _ h1 hx)
  | putfield n =>
    simp only [jok2, Bool.and_eq_true, beq_iff_eq, decide_eq_true_eq] at hok
    obtain ⟨rfl, h1, h2, h3⟩ := hok
    obtain ⟨q, hq, hb, hw⟩ := jFl_in h2
    rw [hq] at h3
    simp only [Bool.and_eq_true, decide_eq_true_eq, Bool.not_eq_true'] at h3
    obtain ⟨v, r, rfl, hx⟩ := jpI_spec hx
    obtain ⟨o, r, rfl, hx⟩ := jpA_spec hx
    obtain ⟨hj, hc, hx⟩ := jB_spec hx
    simp only [Bool.and_eq_true, decide_eq_true_eq] at hj
    by_cases h4 : cv = 1
    · rw [if_pos h4] at h3
      refine js_put E hq hb hw h3.1 h3.2 ?_ ?_ hj.1 hj.2 hd (hG _ _ _ _ _ h1 hx)
      · rcases hc h4 with rfl | rfl <;> rfl
      · rcases hc h4 with rfl | rfl <;> rfl
    · rw [if_neg h4] at h3
      exact js_put E hq hb hw h3.1 h3.2 rfl rfl hj.1 hj.2 hd (hG _ _ _ _ _ h1 hx)
  | iaload =>
    simp only [jok2, Bool.and_eq_true, beq_iff_eq, decide_eq_true_eq] at hok
    obtain ⟨rfl, h1⟩ := hok
    obtain ⟨i, r, rfl, hx⟩ := jpI_spec hx
    obtain ⟨o, r, rfl, hx⟩ := jpA_spec hx
    obtain ⟨hj, hi, hx⟩ := jB_spec hx
    exact js_iald E hj hi hd (hG _ _ _ _ _ h1 hx)
  | baload =>
    simp only [jok2, Bool.and_eq_true, beq_iff_eq, decide_eq_true_eq] at hok
    obtain ⟨rfl, h1⟩ := hok
    obtain ⟨i, r, rfl, hx⟩ := jpI_spec hx
    obtain ⟨o, r, rfl, hx⟩ := jpA_spec hx
    obtain ⟨hj, hi, hx⟩ := jB_spec hx
    exact js_bald E hj hi hd (hG _ _ _ _ _ h1 hx)
  | iastore =>
    simp only [jok2, Bool.and_eq_true, beq_iff_eq, decide_eq_true_eq] at hok
    obtain ⟨rfl, h1⟩ := hok
    obtain ⟨v, r, rfl, hx⟩ := jpI_spec hx
    obtain ⟨i, r, rfl, hx⟩ := jpI_spec hx
    obtain ⟨o, r, rfl, hx⟩ := jpA_spec hx
    obtain ⟨hj, hi, hx⟩ := jB_spec hx
    exact js_iast E hj hi hd (hG _ _ _ _ _ h1 hx)
  | bastore =>
    simp only [jok2, Bool.and_eq_true, beq_iff_eq, decide_eq_true_eq] at hok
    obtain ⟨rfl, h1⟩ := hok
    obtain ⟨v, r, rfl, hx⟩ := jpI_spec hx
    obtain ⟨i, r, rfl, hx⟩ := jpI_spec hx
    obtain ⟨o, r, rfl, hx⟩ := jpA_spec hx
    obtain ⟨hj, hi, hv, hx⟩ := jB_spec hx
    exact js_bast E hj hi hv hd (hG _ _ _ _ _ h1 hx)
  | aaload =>
    simp only [jok2, Bool.and_eq_true, beq_iff_eq, decide_eq_true_eq] at hok
    obtain ⟨rfl, h1⟩ := hok
    obtain ⟨i, r, rfl, hx⟩ := jpI_spec hx
    obtain ⟨o, r, rfl, hx⟩ := jpA_spec hx
    obtain ⟨hj, hi, hx⟩ := jB_spec hx
    simp only [Bool.and_eq_true, decide_eq_true_eq] at hj
    rcases jrk_spec hx with ⟨hk, hx⟩ | ⟨j, hk, hx⟩
    · exact hx.elim
    · exact js_aald E hj.1 hj.2 hi hk hd (hG _ _ _ _ _ h1 hx)
  | goto off =>
    simp only [jok2, Bool.and_eq_true, beq_iff_eq, decide_eq_true_eq] at hok
    obtain ⟨rfl, h1⟩ := hok
    obtain ⟨t, ht, h1⟩ := jnI_spec h1
    exact js_goto E hd ht (hG _ _ _ _ _ h1 hx)
  | ifCond cd off =>
    simp only [jok2, Bool.and_eq_true, beq_iff_eq, decide_eq_true_eq] at hok
    obtain ⟨rfl, h0, h1⟩ := hok
    obtain ⟨t, ht, h1⟩ := jnI_spec h1
    obtain ⟨v, r, rfl, hx⟩ := jpI_spec hx
    exact js_if E hd ht (fun h => hG _ _ _ _ _ h1 (hx.1 h)) (fun h => hG _ _ _ _ _ h0 (hx.2 h))
  | if_icmp cd off =>
    simp only [jok2, Bool.and_eq_true, beq_iff_eq, decide_eq_true_eq] at hok
    obtain ⟨rfl, h0, h1⟩ := hok
    obtain ⟨t, ht, h1⟩ := jnI_spec h1
    obtain ⟨v, y, r, rfl, hx⟩ := jp2_spec hx
    exact js_icmp E hd ht (fun h => hG _ _ _ _ _ h1 (hx.1 h)) (fun h => hG _ _ _ _ _ h0 (hx.2 h))
  | tableswitch dflt lo hi offs =>
    simp only [jok2, Bool.and_eq_true, beq_iff_eq, decide_eq_true_eq] at hok
    obtain ⟨h0, h1, h2, h3⟩ := hok
    obtain ⟨v, r, rfl, hx⟩ := jpI_spec hx
    rcases jsw_spec hx with ⟨q, hq, hv, hx⟩ | ⟨hne, hx⟩
    · obtain ⟨j, hj, rfl⟩ := List.mem_map.mp hq
      have hj := List.mem_range.mp hj
      have hj2 : j < offs.size := by omega
      have hv : v.toInt = lo + (j : Int) := hv
      obtain ⟨t, ht, h4⟩ := jnI_spec (List.all_eq_true.mp h3 j (List.mem_range.mpr hj2))
      refine js_tabIn E hd (by omega) (by omega) (off := offs.getD j 0) ?_ ht (hG _ _ _ _ _ h4 hx)
      rw [show (v.toInt - lo).toNat = j by omega, Array.getElem?_eq_getElem hj2]
      simp [Array.getD, hj2]
    · obtain ⟨t, ht, h0⟩ := jnI_spec h0
      refine js_tabOut E hd ?_ ht (hG _ _ _ _ _ h0 hx)
      by_cases ho : v.toInt < lo ∨ hi < v.toInt
      · exact ho
      · exact absurd (show v.toInt = lo + (((v.toInt - lo).toNat : Nat) : Int) by omega) (hne _ (List.mem_map.mpr ⟨(v.toInt - lo).toNat, List.mem_range.mpr (by omega), rfl⟩))
  | lookupswitch dflt ps =>
    simp only [jok2, Bool.and_eq_true, beq_iff_eq, decide_eq_true_eq] at hok
    obtain ⟨h0, h1, h2, h3⟩ := hok
    obtain ⟨v, r, rfl, hy⟩ := jpI_spec hx
    rw [show ts.length - 1 = ps.toList.length by omega] at hy
    rcases jlook ps.toList (fun j => ts.getD (j + 1) 0) dflt v.toInt hy with ⟨j, g1, g3, hx⟩ | ⟨g2, hx⟩
    · obtain ⟨t, ht, h4⟩ := jnI_spec (List.all_eq_true.mp h3 _ (List.mem_range.mpr g1))
      exact js_look E hd h2 g3 ht (hG _ _ _ _ _ h4 hx)
    · obtain ⟨t, ht, h0⟩ := jnI_spec h0
      exact js_look E hd h2 g2 ht (hG _ _ _ _ _ h0 hx)
  | invokevirtual n =>
    simp only [jok2, Bool.and_eq_true, beq_iff_eq, decide_eq_true_eq] at hok
    obtain ⟨rfl, h1, h2, h3⟩ := hok
    split at h3
    · next r hr =>
      simp only [Bool.and_eq_true, beq_iff_eq, decide_eq_true_eq] at h3
      obtain ⟨e1, e2, e3, e4, e5⟩ := h3
      obtain ⟨w5, w4, hd0, -, hq⟩ := jMt_words hr
      obtain ⟨o, rs, hst, hx⟩ := jpA_spec hx
      obtain ⟨hj, hx⟩ := jB_spec hx
      simp only [Bool.and_eq_true, decide_eq_true_eq] at hj
      rcases hq with ⟨q, hq, hqc, w2, w3⟩ | ⟨hq, -⟩
      · have hsp : st = ((st.take b).reverse).reverse ++ .ref o :: rs := by rw [List.reverse_reverse, ← hst, List.take_append_drop]
        rw [hsp]
        exact js_callV E (hO a r hr) rfl rfl (jMl_in h2 hr) w2 w3 w4 w5 hd0 ⟨e4, e5⟩ hj.1.1 (by rw [← e2]; exact hq) hqc (by rw [List.length_reverse, List.length_take, e1]; omega) hj.1.2 hd hx (fun rv x' h => hG _ _ _ _ _ h1 h)
      · rw [List.getElem?_eq_none_iff] at hq
        simp [vwCl] at hq
        omega
    · cases h3
  | invokestatic n =>
    simp only [jok2, Bool.and_eq_true, beq_iff_eq, decide_eq_true_eq] at hok
    obtain ⟨rfl, h1, h2⟩ := hok
    match cv, h2, hx with
    | 0, h2, hx =>
      simp only [Bool.and_eq_true] at h2
      obtain ⟨h2, h3⟩ := h2
      split at h3
      · next r hr =>
        simp only [Bool.and_eq_true, beq_iff_eq, decide_eq_true_eq] at h3
        obtain ⟨e1, e2, e4, e5⟩ := h3
        obtain ⟨w5, w4, hd0, -, hq⟩ := jMt_words hr
        obtain ⟨hj, hx⟩ := jB_spec hx
        simp only [Bool.and_eq_true, decide_eq_true_eq] at hj
        rcases hq with ⟨q, hq, -⟩ | ⟨-, w2⟩
        · have := vwCl_lt hq
          omega
        · have hsp : st = ((st.take b).reverse).reverse ++ st.drop b := by rw [List.reverse_reverse, List.take_append_drop]
          rw [hsp]
          exact js_callS E (hO a r hr) rfl rfl (jMl_in h2 hr) w2 w4 w5 hd0 ⟨e4, e5⟩ (by rw [List.length_reverse, List.length_take, e1]; omega) hj.1 hd hx (fun rv x' h => hG _ _ _ _ _ h1 h)
      · cases h3
    | 1, h2, hx =>
      simp only [Bool.and_eq_true, decide_eq_true_eq] at h2
      obtain ⟨v, y, r, rfl, hx⟩ := jp2_spec hx
      obtain ⟨hj, hx⟩ := jB_spec hx
      exact js_mmin E h2.2 (jBl_in h2.1) hj hd (hG _ _ _ _ _ h1 hx)
    | 2, h2, hx =>
      simp only [Bool.and_eq_true, decide_eq_true_eq] at h2
      obtain ⟨v, y, r, rfl, hx⟩ := jp2_spec hx
      obtain ⟨hj, hx⟩ := jB_spec hx
      exact js_mmax E h2.2 (jBl_in h2.1) hj hd (hG _ _ _ _ _ h1 hx)
    | 3, h2, hx =>
      simp only [Bool.and_eq_true, decide_eq_true_eq] at h2
      obtain ⟨v, r, rfl, hx⟩ := jpI_spec hx
      obtain ⟨hj, hx⟩ := jB_spec hx
      exact js_mabs E h2.2 (jBl_in h2.1) hj hd (hG _ _ _ _ _ h1 hx)
    | 4, h2, hx =>
      simp only [Bool.and_eq_true, decide_eq_true_eq] at h2
      obtain ⟨n1, r, rfl, hx⟩ := jpI_spec hx
      obtain ⟨dp, r, rfl, hx⟩ := jpI_spec hx
      obtain ⟨d1, r, rfl, hx⟩ := jpA_spec hx
      obtain ⟨sp, r, rfl, hx⟩ := jpI_spec hx
      obtain ⟨o, r, rfl, hx⟩ := jpA_spec hx
      obtain ⟨hj, g1, g2, g3, g4, g5, hx⟩ := jB_spec hx
      simp only [Bool.and_eq_true] at hj
      exact js_copy E ⟨h2.2.1, h2.2.2⟩ (jBl_in h2.1) hj.1.1 hj.1.2 hj.2 g1 g2 g3 g4 g5 hd (hG _ _ _ _ _ h1 hx)
    | (z + 5 : Nat), h2, hx => exact False.elim hx
    | .negSucc z, h2, hx => exact False.elim hx
  | ireturn =>
    simp only [jok2, Bool.and_eq_true, beq_iff_eq, decide_eq_true_eq] at hok
    obtain ⟨rfl, h1⟩ := hok
    match st, hx with
    | [], hx => exact False.elim hx
    | [.int v], hx =>
      simp only [Bool.or_eq_true, Bool.and_eq_true, decide_eq_true_eq] at h1
      exact hI _ _ _ _ hd (h1.elim Or.inl (fun h => Or.inr ⟨h.1, hx.1 h.2⟩)) hx.2
    | .long _ :: _, hx => exact False.elim hx
    | .ref _ :: _, hx => exact False.elim hx
    | .null :: _, hx => exact False.elim hx
    | .float _ :: _, hx => exact False.elim hx
    | .double _ :: _, hx => exact False.elim hx
    | .int _ :: _ :: _, hx => exact False.elim hx
  | return_ =>
    simp only [jok2, Bool.and_eq_true, beq_iff_eq, decide_eq_true_eq] at hok
    obtain ⟨rfl, h1⟩ := hok
    cases st with
    | nil => exact hV _ _ _ hd h1 hx
    | cons v r => exact False.elim hx
  | _ => exact False.elim hx
end JX
end
section
/-! A METHOD'S BODY -/
def jent : List Value → List (Option Value)
  | [] => []
  | v :: vs => if v.category = 2 then some v :: none :: jent vs else some v :: jent vs
def jenL (n : Nat) (as : List Value) : List (Option Value) := jent as ++ List.replicate (n - (jent as).length) none
theorem jent_len (ad : Nat → Nat) : ∀ as : List Value, (lg_sl (as.map (jv ad))).length = (jent as).length
  | [] => rfl
  | v :: vs => by
    have ih := jent_len ad vs
    simp only [lg_sl, List.map_cons, List.flatMap_cons, List.length_append, jent, jv_cat] at ih ⊢
    rw [ih]
    split <;> simp <;> omega
theorem jent_at (ad : Nat → Nat) : ∀ (as : List Value) (k i : Nat) (v : Value), (jent as)[i]? = some (some v) → (k + i, jv ad v) ∈ lv_args k (as.map (jv ad))
  | [], k, i, v, h => by simp [jent] at h
  | w :: ws, k, i, v, h => by
    simp only [List.map_cons, lv_args, jv_cat]
    by_cases hc : w.category = 2
    · simp only [jent, hc, if_true] at h ⊢
      match i, h with
      | 0, h => simp at h; subst h; exact List.mem_cons_self
      | 1, h => simp at h
      | j + 2, h =>
        have := jent_at ad ws (k + 2) j v (by simpa using h)
        rw [show k + (j + 2) = k + 2 + j by omega]
        exact List.mem_cons_of_mem _ this
    · simp only [jent, hc, if_false] at h ⊢
      match i, h with
      | 0, h => simp at h; subst h; exact List.mem_cons_self
      | j + 1, h =>
        have := jent_at ad ws (k + 1) j v (by simpa using h)
        rw [show k + (j + 1) = k + 1 + j by omega]
        exact List.mem_cons_of_mem _ this
theorem jL_entry {ad : Nat → Nat} {as : List Value} {n : Nat} (h : (jent as).length ≤ n) : jL ad ((lg_sl (as.map (jv ad)) ++ List.replicate (n - (lg_sl (as.map (jv ad))).length) Slot.unset).toArray) n (jenL n as) := by
  have hl := lv_entry (as.map (jv ad)) (n := n) (by rw [jent_len]; exact h)
  refine ⟨hl.1, hl.2.1, by simp [jenL]; omega, fun i v hi => ?_⟩
  unfold jenL at hi
  by_cases hlt : i < (jent as).length
  · rw [List.getElem?_append_left hlt] at hi
    have := hl.2.2 _ (jent_at ad as 0 i v hi)
    simpa using this
  · rw [List.getElem?_append_right (by omega), List.getElem?_replicate] at hi
    split at hi <;> simp at hi
def jchk (oi : Nat) (cc : ByteArray) (ret : Option FieldType) (Rf Rl : Nat) (code : List jI) : Bool := jnx code 0 0 && (List.range code.length).all (fun k => match code[k]? with
  | some q => jok oi cc ret Rf Rl code k q
  | none => true)
theorem jchk_at {oi : Nat} {cc : ByteArray} {ret : Option FieldType} {Rf Rl : Nat} {code : List jI} (h : jchk oi cc ret Rf Rl code = true) {k : Nat} {q : jI} (hq : code[k]? = some q) : jok oi cc ret Rf Rl code k q = true := by
  simp only [jchk, Bool.and_eq_true] at h
  have := List.all_eq_true.mp h.2 k (List.mem_range.mpr (List.getElem?_eq_some_iff.mp hq).1)
  rw [hq] at this
  exact this
section JB
variable {p : Program} {l : Launch} {e : Env} {R : Room} {s : State} {m : MethodId} {args : Array Value} {below : List Frame} {meth : Method} {c : Code} {cells slots : Nat} {Q : State → Prop}
variable {cc : ByteArray} {D : va_G} {cy : Nat → ClassId} {ad : Nat → Nat} {N nL : Nat} {K : Nat → jSh} {A : Nat → Prop} {Ts : List Cond}
theorem jrun {O : jO} {code : List jI} {Qr : Option Value → jM → Prop} {oi : Nat} {ret : Option FieldType} (E : jE p R s m args c cells slots cc D cy nL A (jcn oi) Ts)
    (hO : ∀ (a : Nat) (r : jR), jMt[a]? = some r → jMet l r.1 (.code r.1 r.2.1 r.2.2.1 r.2.2.2.1 :: jt) (jrm r) N K (O a))
    (hc : ∀ (k : Nat) (q : jI), code[k]? = some q → jok oi cc ret R.frames R.locals code k q = true)
    (hI : ∀ (v : Int32) (pc' : Nat) (L' : List (Option Value)) (x' : jM), decode cc pc' = .ok (.ireturn, 1) → (ret = some .int ∨ (ret = some .boolean ∧ (v = 0 ∨ v = 1))) → Qr (some (.int v)) x' → jT p l e R s m args below meth c cells slots Q D cy ad N nL K A pc' L' [.int v] x')
    (hV : ∀ (pc' : Nat) (L' : List (Option Value)) (x' : jM), decode cc pc' = .ok (.return_, 1) → ret = none → Qr none x' → jT p l e R s m args below meth c cells slots Q D cy ad N nL K A pc' L' [] x') :
    ∀ (n k pc : Nat) (L : List (Option Value)) (st : List Value) (x : jM), jnx code k pc = true → jwp O N K code Qr n k L st x → jT p l e R s m args below meth c cells slots Q D cy ad N nL K A pc L st x := by
  intro n
  induction n with
  | zero => intro k pc L st x _ h; exact False.elim h
  | succ n ih =>
    intro k pc L st x hn h
    unfold jnx at hn
    split at hn
    · next q hq =>
      simp only [beq_iff_eq] at hn
      unfold jwp at h
      rw [hq] at h
      rw [← hn]
      exact jx_ok E hO (hc k q hq) (fun k' pc' L' st' x' h1 h2 => ih k' pc' L' st' x' h1 h2) hI hV h
    · cases hn
end JB
theorem jbody {l : Launch} {N : Nat} {K : Nat → jSh} {O : jO} {code : List jI} {r : jR} {oi : Nat} (hp : plainName r.1.cls = true) (how : r.1.cls = jcn oi)
    (hO : ∀ (a : Nat) (r : jR), jMt[a]? = some r → jMet l r.1 (.code r.1 r.2.1 r.2.2.1 r.2.2.2.1 :: jt) (jrm r) N K (O a)) (hc : jchk oi r.2.1 r.2.2.2.1 r.2.2.2.2.2.2.1 r.2.2.2.2.2.2.2 code = true) :
    jMet l r.1 (.code r.1 r.2.1 r.2.2.1 r.2.2.2.1 :: jt) (jrm r) N K (fun as x Qr => (jent as).length ≤ r.2.2.1 ∧ ∃ n, jwp O N K code Qr n 0 (jenL r.2.2.1 as) [] x) := by
  intro D cy ad as x Qr sz hT
  obtain ⟨hfit, n, hw⟩ := hT
  refine Met.ofW (cc := r.2.1) (maxL := r.2.2.1) (ret := r.2.2.2.1) hp rfl ?_
  intro p e s m args below meth c s₁ B hml hv
  obtain ⟨rfl, hsz, hP, hK, hD0⟩ := hv
  have hr := B.returns
  have hts := atoms_spec (ws := .code r.1 r.2.1 r.2.2.1 r.2.2.2.1 :: jt) B.pre
  have hown : s.vm.findClass (jcn oi) = some m.cls := by rw [← how]; exact findClass_of_methodNamed B.named
  have hlocks := B.notSynchronized
  subst hsz
  have hD := hD0.self (sz := s.heap.size)
  generalize hAe : va_A (jW ad cy N K x) s.heap.size = A at hD ⊢
  have hA : ∀ q : Nat, s.heap.size ≤ q → A q := fun q h => by rw [← hAe]; exact Or.inr h
  rw [lg_entry_eq]
  have E : jE p (headSpec (.code r.1 r.2.1 r.2.2.1 r.2.2.2.1 :: jt) (jrm r)).room s m (as.map (jv ad)).toArray c 0 0 r.2.1 D cy r.2.2.1 A (jcn oi) (.code r.1 r.2.1 r.2.2.1 r.2.2.2.1 :: jt) :=
    ⟨B.exec, B.bytes, hml, hown, hts, hK, hA, fun w h => List.mem_cons_of_mem _ h, Nat.zero_le _, Nat.zero_le _⟩
  refine jrun (l := l) (Qr := Qr) E hO (fun k q hq => jchk_at hc hq) ?_ ?_ n 0 0 (jenL r.2.2.1 as) [] x ?_ hw s.heap [] _ hP hD va_S.rf (jL_entry hfit)
  · intro v pc' L' x' hd hrt hq H locs ls hP hD hS hL
    rcases hrt with hrt | ⟨hrt, hv⟩
    · rw [hrt] at hr
      exact W.iret (v := v) B.exec B.bytes hr (fun t ht hW => ⟨⟨some (.int v), x', rfl, hq, by rw [ht]; exact hP, va_K.moved hW.alike hK, hD⟩, hS.F ht⟩) hS.2.2 hd
    · rw [hrt] at hr
      exact W.zret (v := v) B.exec B.bytes hr (by rcases hv with rfl | rfl <;> rfl) (fun t ht hW => ⟨⟨some (.int v), x', rfl, hq, by rw [ht]; exact hP, va_K.moved hW.alike hK, hD⟩, hS.F ht⟩) hS.2.2 hd
  · intro pc' L' x' hd hrt hq H locs ls hP hD hS hL
    rw [hrt] at hr
    exact W.vret B.exec B.bytes hr (fun t ht hW => ⟨⟨none, x', rfl, hq, by rw [ht]; exact hP, va_K.moved hW.alike hK, hD⟩, hS.F ht⟩) hS.2.2 hd
  · simp only [jchk, Bool.and_eq_true] at hc
    exact hc.1
end
section
/-! THE CODE of the methods, with what each instruction needs; checked against the bytes -/
def kX0_empty : List jI := [(0, .aload_n 0, 1, 0, 0, 0, []),
  (1, .iconst 0, 1, 0, 0, 0, []),
  (2, .putfield 21, 3, 0, 0, 1, []),
  (5, .aload_n 0, 1, 0, 0, 0, []),
  (6, .iconst 0, 1, 0, 0, 0, []),
  (7, .putfield 25, 3, 0, 1, 0, []),
  (10, .aload_n 0, 1, 0, 0, 0, []),
  (11, .iconst 0, 1, 0, 0, 0, []),
  (12, .putfield 29, 3, 0, 2, 0, []),
  (15, .aload_n 0, 1, 0, 0, 0, []),
  (16, .iconst 0, 1, 0, 0, 0, []),
  (17, .putfield 32, 3, 0, 5, 0, []),
  (20, .return_, 1, 0, 0, 0, [])]
theorem gX0_empty : jchk 0 cX0_empty none 0 0 kX0_empty = true := by decide +kernel
def kX0_takeFrom : List jI := [(0, .aload_n 0, 1, 0, 0, 0, []),
  (1, .aload_n 1, 1, 1, 0, 0, []),
  (2, .getfield 21, 3, 0, 0, 0, []),
  (5, .putfield 21, 3, 0, 0, 1, []),
  (8, .aload_n 0, 1, 0, 0, 0, []),
  (9, .aload_n 1, 1, 1, 0, 0, []),
  (10, .getfield 25, 3, 0, 1, 0, []),
  (13, .putfield 25, 3, 0, 1, 0, []),
  (16, .aload_n 0, 1, 0, 0, 0, []),
  (17, .aload_n 1, 1, 1, 0, 0, []),
  (18, .getfield 29, 3, 0, 2, 0, []),
  (21, .putfield 29, 3, 0, 2, 0, []),
  (24, .aload_n 0, 1, 0, 0, 0, []),
  (25, .aload_n 1, 1, 1, 0, 0, []),
  (26, .getfield 32, 3, 0, 5, 0, []),
  (29, .putfield 32, 3, 0, 5, 0, []),
  (32, .aload_n 1, 1, 1, 0, 0, []),
  (33, .getfield 9, 3, 0, 3, 0, []),
  (36, .iconst 0, 1, 0, 0, 0, []),
  (37, .aload_n 0, 1, 0, 0, 0, []),
  (38, .getfield 9, 3, 0, 3, 0, []),
  (41, .iconst 0, 1, 0, 0, 0, []),
  (42, .bipush 8, 2, 0, 0, 8, []),
  (44, .invokestatic 35, 3, 0, 0, 4, []),
  (47, .aload_n 1, 1, 1, 0, 0, []),
  (48, .getfield 15, 3, 0, 4, 0, []),
  (51, .iconst 0, 1, 0, 0, 0, []),
  (52, .aload_n 0, 1, 0, 0, 0, []),
  (53, .getfield 15, 3, 0, 4, 0, []),
  (56, .iconst 0, 1, 0, 0, 0, []),
  (57, .bipush 8, 2, 0, 0, 8, []),
  (59, .invokestatic 35, 3, 0, 0, 4, []),
  (62, .aload_n 1, 1, 1, 0, 0, []),
  (63, .getfield 18, 3, 0, 6, 0, []),
  (66, .iconst 0, 1, 0, 0, 0, []),
  (67, .aload_n 0, 1, 0, 0, 0, []),
  (68, .getfield 18, 3, 0, 6, 0, []),
  (71, .iconst 0, 1, 0, 0, 0, []),
  (72, .iconst 4, 1, 0, 0, 4, []),
  (73, .invokestatic 35, 3, 0, 0, 4, []),
  (76, .return_, 1, 0, 0, 0, [])]
theorem gX0_takeFrom : jchk 0 cX0_takeFrom none 1 26 kX0_takeFrom = true := by decide +kernel
def kX1_push : List jI := [(0, .aload_n 0, 1, 0, 0, 0, []),
  (1, .getfield 11, 3, 1, 0, 0, []),
  (4, .aload_n 0, 1, 0, 0, 0, []),
  (5, .getfield 18, 3, 1, 2, 0, []),
  (8, .aaload, 1, 11, 0, 0, []),
  (9, .aload_n 1, 1, 1, 0, 0, []),
  (10, .invokevirtual 22, 3, 23, 1, 5, []),
  (13, .aload_n 0, 1, 0, 0, 0, []),
  (14, .aload_n 0, 1, 0, 0, 0, []),
  (15, .getfield 18, 3, 1, 2, 0, []),
  (18, .iconst 1, 1, 0, 0, 1, []),
  (19, .iadd, 1, 0, 0, 0, []),
  (20, .bipush 20, 2, 0, 0, 20, []),
  (22, .irem, 1, 0, 0, 0, []),
  (23, .putfield 18, 3, 1, 2, 0, []),
  (26, .aload_n 0, 1, 0, 0, 0, []),
  (27, .aload_n 0, 1, 0, 0, 0, []),
  (28, .getfield 26, 3, 1, 1, 0, []),
  (31, .iconst 1, 1, 0, 0, 1, []),
  (32, .iadd, 1, 0, 0, 0, []),
  (33, .bipush 20, 2, 0, 0, 20, []),
  (35, .invokestatic 29, 3, 0, 0, 1, []),
  (38, .putfield 26, 3, 1, 1, 0, []),
  (41, .return_, 1, 0, 0, 0, [])]
theorem gX1_push : jchk 1 cX1_push none 2 47 kX1_push = true := by decide +kernel
def kX1_popInto : List jI := [(0, .aload_n 0, 1, 0, 0, 0, []),
  (1, .getfield 26, 3, 1, 1, 0, []),
  (4, .ifCond .gt 4, 3, 0, 0, 0, [4]),
  (7, .return_, 1, 0, 0, 0, []),
  (8, .aload_n 0, 1, 0, 0, 0, []),
  (9, .aload_n 0, 1, 0, 0, 0, []),
  (10, .getfield 18, 3, 1, 2, 0, []),
  (13, .bipush 20, 2, 0, 0, 20, []),
  (15, .iadd, 1, 0, 0, 0, []),
  (16, .iconst 1, 1, 0, 0, 1, []),
  (17, .isub, 1, 0, 0, 0, []),
  (18, .bipush 20, 2, 0, 0, 20, []),
  (20, .irem, 1, 0, 0, 0, []),
  (21, .putfield 18, 3, 1, 2, 0, []),
  (24, .aload_n 0, 1, 0, 0, 0, []),
  (25, .dup, 1, 0, 0, 0, []),
  (26, .getfield 26, 3, 1, 1, 0, []),
  (29, .iconst 1, 1, 0, 0, 1, []),
  (30, .isub, 1, 0, 0, 0, []),
  (31, .putfield 26, 3, 1, 1, 0, []),
  (34, .aload_n 1, 1, 1, 0, 0, []),
  (35, .aload_n 0, 1, 0, 0, 0, []),
  (36, .getfield 11, 3, 1, 0, 0, []),
  (39, .aload_n 0, 1, 0, 0, 0, []),
  (40, .getfield 18, 3, 1, 2, 0, []),
  (43, .aaload, 1, 11, 0, 0, []),
  (44, .invokevirtual 22, 3, 23, 1, 5, []),
  (47, .return_, 1, 0, 0, 0, [])]
theorem gX1_popInto : jchk 1 cX1_popInto none 2 47 kX1_popInto = true := by decide +kernel
def kX1_forgetAll : List jI := [(0, .aload_n 0, 1, 0, 0, 0, []),
  (1, .iconst 0, 1, 0, 0, 0, []),
  (2, .putfield 26, 3, 1, 1, 0, []),
  (5, .return_, 1, 0, 0, 0, [])]
theorem gX1_forgetAll : jchk 1 cX1_forgetAll none 0 0 kX1_forgetAll = true := by decide +kernel
def kX3_addSeen : List jI := [(0, .aload_n 0, 1, 0, 0, 0, []),
  (1, .getfield 21, 3, 3, 0, 0, []),
  (4, .bipush 8, 2, 0, 0, 8, []),
  (6, .if_icmp .ge 23, 3, 0, 0, 0, [16]),
  (9, .aload_n 0, 1, 0, 0, 0, []),
  (10, .getfield 9, 3, 3, 1, 0, []),
  (13, .aload_n 0, 1, 0, 0, 0, []),
  (14, .getfield 21, 3, 3, 0, 0, []),
  (17, .iload_n 1, 1, 1, 0, 0, []),
  (18, .iastore, 1, 0, 0, 0, []),
  (19, .aload_n 0, 1, 0, 0, 0, []),
  (20, .dup, 1, 0, 0, 0, []),
  (21, .getfield 21, 3, 3, 0, 0, []),
  (24, .iconst 1, 1, 0, 0, 1, []),
  (25, .iadd, 1, 0, 0, 0, []),
  (26, .putfield 21, 3, 3, 0, 0, []),
  (29, .return_, 1, 0, 0, 0, [])]
theorem gX3_addSeen : jchk 3 cX3_addSeen none 0 0 kX3_addSeen = true := by decide +kernel
def kX3_addEntry : List jI := [(0, .aload_n 0, 1, 0, 0, 0, []),
  (1, .getfield 25, 3, 3, 2, 0, []),
  (4, .bipush 15, 2, 0, 0, 15, []),
  (6, .if_icmp .ge 33, 3, 0, 0, 0, [22]),
  (9, .aload_n 0, 1, 0, 0, 0, []),
  (10, .getfield 15, 3, 3, 3, 0, []),
  (13, .aload_n 0, 1, 0, 0, 0, []),
  (14, .getfield 25, 3, 3, 2, 0, []),
  (17, .iload_n 1, 1, 1, 0, 0, []),
  (18, .iastore, 1, 0, 0, 0, []),
  (19, .aload_n 0, 1, 0, 0, 0, []),
  (20, .getfield 18, 3, 3, 4, 0, []),
  (23, .aload_n 0, 1, 0, 0, 0, []),
  (24, .getfield 25, 3, 3, 2, 0, []),
  (27, .iload_n 2, 1, 2, 0, 0, []),
  (28, .iastore, 1, 0, 0, 0, []),
  (29, .aload_n 0, 1, 0, 0, 0, []),
  (30, .dup, 1, 0, 0, 0, []),
  (31, .getfield 25, 3, 3, 2, 0, []),
  (34, .iconst 1, 1, 0, 0, 1, []),
  (35, .iadd, 1, 0, 0, 0, []),
  (36, .putfield 25, 3, 3, 2, 0, []),
  (39, .return_, 1, 0, 0, 0, [])]
theorem gX3_addEntry : jchk 3 cX3_addEntry none 0 0 kX3_addEntry = true := by decide +kernel
def kX3_clearAll : List jI := [(0, .aload_n 0, 1, 0, 0, 0, []),
  (1, .iconst 0, 1, 0, 0, 0, []),
  (2, .putfield 21, 3, 3, 0, 0, []),
  (5, .aload_n 0, 1, 0, 0, 0, []),
  (6, .iconst 0, 1, 0, 0, 0, []),
  (7, .putfield 25, 3, 3, 2, 0, []),
  (10, .return_, 1, 0, 0, 0, [])]
theorem gX3_clearAll : jchk 3 cX3_clearAll none 0 0 kX3_clearAll = true := by decide +kernel
def kX4_addLetter : List jI := [(0, .aload_n 0, 1, 0, 0, 0, []),
  (1, .getfield 29, 3, 4, 1, 0, []),
  (4, .sipush 240, 3, 0, 0, 240, []),
  (7, .if_icmp .ge 23, 3, 0, 0, 0, [16]),
  (10, .aload_n 0, 1, 0, 0, 0, []),
  (11, .getfield 9, 3, 4, 0, 0, []),
  (14, .aload_n 0, 1, 0, 0, 0, []),
  (15, .getfield 29, 3, 4, 1, 0, []),
  (18, .iload_n 1, 1, 1, 0, 0, []),
  (19, .iastore, 1, 0, 0, 0, []),
  (20, .aload_n 0, 1, 0, 0, 0, []),
  (21, .dup, 1, 0, 0, 0, []),
  (22, .getfield 29, 3, 4, 1, 0, []),
  (25, .iconst 1, 1, 0, 0, 1, []),
  (26, .iadd, 1, 0, 0, 0, []),
  (27, .putfield 29, 3, 4, 1, 0, []),
  (30, .return_, 1, 0, 0, 0, [])]
theorem gX4_addLetter : jchk 4 cX4_addLetter none 0 0 kX4_addLetter = true := by decide +kernel
def kX4_readAll : List jI := [(0, .aload_n 0, 1, 0, 0, 0, []),
  (1, .iconst 0, 1, 0, 0, 0, []),
  (2, .putfield 33, 3, 4, 4, 0, []),
  (5, .aload_n 0, 1, 0, 0, 0, []),
  (6, .iconst 0, 1, 0, 0, 0, []),
  (7, .putfield 36, 3, 4, 5, 0, []),
  (10, .aload_n 0, 1, 0, 0, 0, []),
  (11, .getfield 18, 3, 4, 2, 0, []),
  (14, .invokevirtual 39, 3, 0, 0, 0, []),
  (17, .aload_n 0, 1, 0, 0, 0, []),
  (18, .getfield 25, 3, 4, 3, 0, []),
  (21, .invokevirtual 42, 3, 21, 0, 5, []),
  (24, .iconst 0, 1, 0, 0, 0, []),
  (25, .istore_n 1, 1, 1, 0, 0, []),
  (26, .iload_n 1, 1, 1, 0, 0, []),
  (27, .sipush 240, 3, 0, 0, 240, []),
  (30, .if_icmp .ge 38, 3, 0, 0, 0, [32]),
  (33, .aload_n 0, 1, 0, 0, 0, []),
  (34, .getfield 36, 3, 4, 5, 0, []),
  (37, .ifCond .ne 31, 3, 0, 0, 0, [32]),
  (40, .aload_n 0, 1, 0, 0, 0, []),
  (41, .invokevirtual 43, 3, 18, 0, 4, []),
  (44, .aload_n 0, 1, 0, 0, 0, []),
  (45, .getfield 33, 3, 4, 4, 0, []),
  (48, .aload_n 0, 1, 0, 0, 0, []),
  (49, .getfield 29, 3, 4, 1, 0, []),
  (52, .if_icmp .lt 6, 3, 0, 0, 0, [28]),
  (55, .goto 13, 3, 0, 0, 0, [32]),
  (58, .aload_n 0, 1, 0, 0, 0, []),
  (59, .invokevirtual 46, 3, 10, 0, 4, []),
  (62, .iinc 1 1, 3, 1, 0, 1, []),
  (65, .goto (-39), 3, 0, 0, 0, [14]),
  (68, .aload_n 0, 1, 0, 0, 0, []),
  (69, .getfield 36, 3, 4, 5, 0, []),
  (72, .ireturn, 1, 0, 0, 0, [])]
theorem gX4_readAll : jchk 4 cX4_readAll (some .int) 5 108 kX4_readAll = true := by decide +kernel
def kX4_readClause : List jI := [(0, .aload_n 0, 1, 0, 0, 0, []),
  (1, .getfield 33, 3, 4, 4, 0, []),
  (4, .istore_n 1, 1, 1, 0, 0, []),
  (5, .aload_n 0, 1, 0, 0, 0, []),
  (6, .invokevirtual 49, 3, 19, 0, 4, []),
  (9, .istore_n 2, 1, 2, 0, 0, []),
  (10, .aload_n 0, 1, 0, 0, 0, []),
  (11, .dup, 1, 0, 0, 0, []),
  (12, .getfield 33, 3, 4, 4, 0, []),
  (15, .iconst 1, 1, 0, 0, 1, []),
  (16, .iadd, 1, 0, 0, 0, []),
  (17, .putfield 33, 3, 4, 4, 0, []),
  (20, .aload_n 0, 1, 0, 0, 0, []),
  (21, .getfield 18, 3, 4, 2, 0, []),
  (24, .getfield 53, 3, 0, 0, 0, []),
  (27, .ifCond .ne 16, 3, 0, 0, 0, [24]),
  (30, .iload_n 2, 1, 2, 0, 0, []),
  (31, .bipush 120, 2, 0, 0, 120, []),
  (33, .if_icmp .eq 10, 3, 0, 0, 0, [24]),
  (36, .aload_n 0, 1, 0, 0, 0, []),
  (37, .iconst 1, 1, 0, 0, 1, []),
  (38, .iload_n 1, 1, 1, 0, 0, []),
  (39, .invokevirtual 57, 3, 17, 2, 4, []),
  (42, .return_, 1, 0, 0, 0, []),
  (43, .iload_n 2, 1, 2, 0, 0, []),
  (44, .lookupswitch 76 #[(99, 68), (112, 52), (115, 60), (120, 44)], 44, 0, 0, 0, [42, 38, 30, 34, 26]),
  (88, .aload_n 0, 1, 0, 0, 0, []),
  (89, .iload_n 1, 1, 1, 0, 0, []),
  (90, .invokevirtual 61, 3, 11, 1, 4, []),
  (93, .goto 33, 3, 0, 0, 0, [46]),
  (96, .aload_n 0, 1, 0, 0, 0, []),
  (97, .iload_n 1, 1, 1, 0, 0, []),
  (98, .invokevirtual 65, 3, 12, 1, 4, []),
  (101, .goto 25, 3, 0, 0, 0, [46]),
  (104, .aload_n 0, 1, 0, 0, 0, []),
  (105, .iload_n 1, 1, 1, 0, 0, []),
  (106, .invokevirtual 68, 3, 13, 1, 4, []),
  (109, .goto 17, 3, 0, 0, 0, [46]),
  (112, .aload_n 0, 1, 0, 0, 0, []),
  (113, .iload_n 1, 1, 1, 0, 0, []),
  (114, .invokevirtual 71, 3, 14, 1, 4, []),
  (117, .goto 9, 3, 0, 0, 0, [46]),
  (120, .aload_n 0, 1, 0, 0, 0, []),
  (121, .iconst 1, 1, 0, 0, 1, []),
  (122, .iload_n 1, 1, 1, 0, 0, []),
  (123, .invokevirtual 57, 3, 17, 2, 4, []),
  (126, .return_, 1, 0, 0, 0, [])]
theorem gX4_readClause : jchk 4 cX4_readClause none 4 86 kX4_readClause = true := by decide +kernel
def kX4_readGrandfather : List jI := [(0, .aload_n 0, 1, 0, 0, 0, []),
  (1, .getfield 18, 3, 4, 2, 0, []),
  (4, .getfield 53, 3, 0, 0, 0, []),
  (7, .ifCond .eq 10, 3, 0, 0, 0, [9]),
  (10, .aload_n 0, 1, 0, 0, 0, []),
  (11, .iconst 3, 1, 0, 0, 3, []),
  (12, .iload_n 1, 1, 1, 0, 0, []),
  (13, .invokevirtual 57, 3, 17, 2, 4, []),
  (16, .return_, 1, 0, 0, 0, []),
  (17, .aload_n 0, 1, 0, 0, 0, []),
  (18, .sipush 999, 3, 0, 0, 999, []),
  (21, .invokevirtual 74, 3, 15, 1, 4, []),
  (24, .istore_n 2, 1, 2, 0, 0, []),
  (25, .aload_n 0, 1, 0, 0, 0, []),
  (26, .invokevirtual 78, 3, 16, 0, 4, []),
  (29, .aload_n 0, 1, 0, 0, 0, []),
  (30, .getfield 18, 3, 4, 2, 0, []),
  (33, .iload_n 2, 1, 2, 0, 0, []),
  (34, .putfield 81, 3, 0, 1, 0, []),
  (37, .aload_n 0, 1, 0, 0, 0, []),
  (38, .getfield 18, 3, 4, 2, 0, []),
  (41, .iconst 1, 1, 0, 0, 1, []),
  (42, .putfield 53, 3, 0, 0, 1, []),
  (45, .return_, 1, 0, 0, 0, [])]
theorem gX4_readGrandfather : jchk 4 cX4_readGrandfather none 3 63 kX4_readGrandfather = true := by decide +kernel
def kX4_readPerson : List jI := [(0, .aload_n 0, 1, 0, 0, 0, []),
  (1, .getfield 18, 3, 4, 2, 0, []),
  (4, .getfield 84, 3, 0, 2, 0, []),
  (7, .istore_n 2, 1, 2, 0, 0, []),
  (8, .iload_n 2, 1, 2, 0, 0, []),
  (9, .bipush 8, 2, 0, 0, 8, []),
  (11, .if_icmp .lt 10, 3, 0, 0, 0, [12]),
  (14, .aload_n 0, 1, 0, 0, 0, []),
  (15, .iconst 3, 1, 0, 0, 3, []),
  (16, .iload_n 1, 1, 1, 0, 0, []),
  (17, .invokevirtual 57, 3, 17, 2, 4, []),
  (20, .return_, 1, 0, 0, 0, []),
  (21, .aload_n 0, 1, 0, 0, 0, []),
  (22, .getfield 25, 3, 4, 3, 0, []),
  (25, .getfield 87, 3, 5, 0, 0, []),
  (28, .iload_n 2, 1, 2, 0, 0, []),
  (29, .aload_n 0, 1, 0, 0, 0, []),
  (30, .sipush 999, 3, 0, 0, 999, []),
  (33, .invokevirtual 74, 3, 15, 1, 4, []),
  (36, .iastore, 1, 0, 0, 0, []),
  (37, .aload_n 0, 1, 0, 0, 0, []),
  (38, .getfield 18, 3, 4, 2, 0, []),
  (41, .getfield 90, 3, 0, 3, 0, []),
  (44, .iload_n 2, 1, 2, 0, 0, []),
  (45, .aload_n 0, 1, 0, 0, 0, []),
  (46, .iconst 3, 1, 0, 0, 3, []),
  (47, .invokevirtual 74, 3, 15, 1, 4, []),
  (50, .iastore, 1, 0, 0, 0, []),
  (51, .aload_n 0, 1, 0, 0, 0, []),
  (52, .getfield 18, 3, 4, 2, 0, []),
  (55, .getfield 93, 3, 0, 4, 0, []),
  (58, .iload_n 2, 1, 2, 0, 0, []),
  (59, .aload_n 0, 1, 0, 0, 0, []),
  (60, .iconst 2, 1, 0, 0, 2, []),
  (61, .invokevirtual 74, 3, 15, 1, 4, []),
  (64, .iastore, 1, 0, 0, 0, []),
  (65, .aload_n 0, 1, 0, 0, 0, []),
  (66, .invokevirtual 78, 3, 16, 0, 4, []),
  (69, .aload_n 0, 1, 0, 0, 0, []),
  (70, .getfield 18, 3, 4, 2, 0, []),
  (73, .dup, 1, 0, 0, 0, []),
  (74, .getfield 84, 3, 0, 2, 0, []),
  (77, .iconst 1, 1, 0, 0, 1, []),
  (78, .iadd, 1, 0, 0, 0, []),
  (79, .putfield 84, 3, 0, 2, 0, []),
  (82, .return_, 1, 0, 0, 0, [])]
theorem gX4_readPerson : jchk 4 cX4_readPerson none 3 63 kX4_readPerson = true := by decide +kernel
def kX4_readPaper : List jI := [(0, .aload_n 0, 1, 0, 0, 0, []),
  (1, .getfield 25, 3, 4, 3, 0, []),
  (4, .getfield 96, 3, 5, 1, 0, []),
  (7, .bipush 8, 2, 0, 0, 8, []),
  (9, .if_icmp .lt 10, 3, 0, 0, 0, [10]),
  (12, .aload_n 0, 1, 0, 0, 0, []),
  (13, .iconst 3, 1, 0, 0, 3, []),
  (14, .iload_n 1, 1, 1, 0, 0, []),
  (15, .invokevirtual 57, 3, 17, 2, 4, []),
  (18, .return_, 1, 0, 0, 0, []),
  (19, .aload_n 0, 1, 0, 0, 0, []),
  (20, .aload_n 0, 1, 0, 0, 0, []),
  (21, .getfield 18, 3, 4, 2, 0, []),
  (24, .getfield 84, 3, 0, 2, 0, []),
  (27, .iconst 1, 1, 0, 0, 1, []),
  (28, .isub, 1, 0, 0, 0, []),
  (29, .invokevirtual 74, 3, 15, 1, 4, []),
  (32, .istore_n 2, 1, 2, 0, 0, []),
  (33, .aload_n 0, 1, 0, 0, 0, []),
  (34, .sipush 999, 3, 0, 0, 999, []),
  (37, .invokevirtual 74, 3, 15, 1, 4, []),
  (40, .istore_n 3, 1, 3, 0, 0, []),
  (41, .aload_n 0, 1, 0, 0, 0, []),
  (42, .invokevirtual 78, 3, 16, 0, 4, []),
  (45, .aload_n 0, 1, 0, 0, 0, []),
  (46, .getfield 25, 3, 4, 3, 0, []),
  (49, .iload_n 2, 1, 2, 0, 0, []),
  (50, .iload_n 3, 1, 3, 0, 0, []),
  (51, .invokevirtual 99, 3, 22, 2, 5, []),
  (54, .return_, 1, 0, 0, 0, [])]
theorem gX4_readPaper : jchk 4 cX4_readPaper none 3 63 kX4_readPaper = true := by decide +kernel
def kX4_readCandidate : List jI := [(0, .aload_n 0, 1, 0, 0, 0, []),
  (1, .getfield 18, 3, 4, 2, 0, []),
  (4, .getfield 102, 3, 0, 5, 0, []),
  (7, .istore_n 2, 1, 2, 0, 0, []),
  (8, .iload_n 2, 1, 2, 0, 0, []),
  (9, .iconst 4, 1, 0, 0, 4, []),
  (10, .if_icmp .lt 10, 3, 0, 0, 0, [12]),
  (13, .aload_n 0, 1, 0, 0, 0, []),
  (14, .iconst 3, 1, 0, 0, 3, []),
  (15, .iload_n 1, 1, 1, 0, 0, []),
  (16, .invokevirtual 57, 3, 17, 2, 4, []),
  (19, .return_, 1, 0, 0, 0, []),
  (20, .aload_n 0, 1, 0, 0, 0, []),
  (21, .getfield 18, 3, 4, 2, 0, []),
  (24, .getfield 105, 3, 0, 6, 0, []),
  (27, .iload_n 2, 1, 2, 0, 0, []),
  (28, .aload_n 0, 1, 0, 0, 0, []),
  (29, .sipush 999, 3, 0, 0, 999, []),
  (32, .invokevirtual 74, 3, 15, 1, 4, []),
  (35, .iastore, 1, 0, 0, 0, []),
  (36, .aload_n 0, 1, 0, 0, 0, []),
  (37, .invokevirtual 78, 3, 16, 0, 4, []),
  (40, .aload_n 0, 1, 0, 0, 0, []),
  (41, .getfield 18, 3, 4, 2, 0, []),
  (44, .dup, 1, 0, 0, 0, []),
  (45, .getfield 102, 3, 0, 5, 0, []),
  (48, .iconst 1, 1, 0, 0, 1, []),
  (49, .iadd, 1, 0, 0, 0, []),
  (50, .putfield 102, 3, 0, 5, 0, []),
  (53, .return_, 1, 0, 0, 0, [])]
theorem gX4_readCandidate : jchk 4 cX4_readCandidate none 3 63 kX4_readCandidate = true := by decide +kernel
def kX4_readNumber : List jI := [(0, .aload_n 0, 1, 0, 0, 0, []),
  (1, .getfield 36, 3, 4, 5, 0, []),
  (4, .ifCond .eq 5, 3, 0, 0, 0, [5]),
  (7, .iconst 0, 1, 0, 0, 0, []),
  (8, .ireturn, 1, 0, 0, 0, []),
  (9, .aload_n 0, 1, 0, 0, 0, []),
  (10, .invokevirtual 43, 3, 18, 0, 4, []),
  (13, .aload_n 0, 1, 0, 0, 0, []),
  (14, .getfield 33, 3, 4, 4, 0, []),
  (17, .istore_n 2, 1, 2, 0, 0, []),
  (18, .iconst 0, 1, 0, 0, 0, []),
  (19, .istore_n 3, 1, 3, 0, 0, []),
  (20, .aload_n 0, 1, 0, 0, 0, []),
  (21, .getfield 33, 3, 4, 4, 0, []),
  (24, .aload_n 0, 1, 0, 0, 0, []),
  (25, .getfield 29, 3, 4, 1, 0, []),
  (28, .if_icmp .ge 49, 3, 0, 0, 0, [43]),
  (31, .aload_n 0, 1, 0, 0, 0, []),
  (32, .invokevirtual 49, 3, 19, 0, 4, []),
  (35, .invokestatic 108, 3, 20, 1, 0, []),
  (38, .ifCond .eq 39, 3, 0, 0, 0, [43]),
  (41, .aload_n 0, 1, 0, 0, 0, []),
  (42, .getfield 33, 3, 4, 4, 0, []),
  (45, .iload_n 2, 1, 2, 0, 0, []),
  (46, .isub, 1, 0, 0, 0, []),
  (47, .iconst 3, 1, 0, 0, 3, []),
  (48, .if_icmp .ge 16, 3, 0, 0, 0, [36]),
  (51, .bipush 10, 2, 0, 0, 10, []),
  (53, .iload_n 3, 1, 3, 0, 0, []),
  (54, .imul, 1, 0, 0, 0, []),
  (55, .aload_n 0, 1, 0, 0, 0, []),
  (56, .invokevirtual 49, 3, 19, 0, 4, []),
  (59, .iadd, 1, 0, 0, 0, []),
  (60, .bipush 48, 2, 0, 0, 48, []),
  (62, .isub, 1, 0, 0, 0, []),
  (63, .istore_n 3, 1, 3, 0, 0, []),
  (64, .aload_n 0, 1, 0, 0, 0, []),
  (65, .dup, 1, 0, 0, 0, []),
  (66, .getfield 33, 3, 4, 4, 0, []),
  (69, .iconst 1, 1, 0, 0, 1, []),
  (70, .iadd, 1, 0, 0, 0, []),
  (71, .putfield 33, 3, 4, 4, 0, []),
  (74, .goto (-54), 3, 0, 0, 0, [12]),
  (77, .aload_n 0, 1, 0, 0, 0, []),
  (78, .getfield 33, 3, 4, 4, 0, []),
  (81, .iload_n 2, 1, 2, 0, 0, []),
  (82, .if_icmp .ne 14, 3, 0, 0, 0, [54]),
  (85, .aload_n 0, 1, 0, 0, 0, []),
  (86, .iconst 1, 1, 0, 0, 1, []),
  (87, .aload_n 0, 1, 0, 0, 0, []),
  (88, .getfield 33, 3, 4, 4, 0, []),
  (91, .invokevirtual 57, 3, 17, 2, 4, []),
  (94, .iconst 0, 1, 0, 0, 0, []),
  (95, .ireturn, 1, 0, 0, 0, []),
  (96, .aload_n 0, 1, 0, 0, 0, []),
  (97, .getfield 33, 3, 4, 4, 0, []),
  (100, .iload_n 2, 1, 2, 0, 0, []),
  (101, .isub, 1, 0, 0, 0, []),
  (102, .iconst 3, 1, 0, 0, 3, []),
  (103, .if_icmp .gt 8, 3, 0, 0, 0, [63]),
  (106, .iload_n 3, 1, 3, 0, 0, []),
  (107, .iload_n 1, 1, 1, 0, 0, []),
  (108, .if_icmp .le 11, 3, 0, 0, 0, [69]),
  (111, .aload_n 0, 1, 0, 0, 0, []),
  (112, .iconst 2, 1, 0, 0, 2, []),
  (113, .iload_n 2, 1, 2, 0, 0, []),
  (114, .invokevirtual 57, 3, 17, 2, 4, []),
  (117, .iconst 0, 1, 0, 0, 0, []),
  (118, .ireturn, 1, 0, 0, 0, []),
  (119, .iload_n 3, 1, 3, 0, 0, []),
  (120, .ireturn, 1, 0, 0, 0, [])]
theorem gX4_readNumber : jchk 4 cX4_readNumber (some .int) 2 40 kX4_readNumber = true := by decide +kernel
def kX4_readEnd : List jI := [(0, .aload_n 0, 1, 0, 0, 0, []),
  (1, .getfield 36, 3, 4, 5, 0, []),
  (4, .ifCond .eq 4, 3, 0, 0, 0, [4]),
  (7, .return_, 1, 0, 0, 0, []),
  (8, .aload_n 0, 1, 0, 0, 0, []),
  (9, .invokevirtual 43, 3, 18, 0, 4, []),
  (12, .aload_n 0, 1, 0, 0, 0, []),
  (13, .invokevirtual 49, 3, 19, 0, 4, []),
  (16, .bipush 59, 2, 0, 0, 59, []),
  (18, .if_icmp .eq 13, 3, 0, 0, 0, [16]),
  (21, .aload_n 0, 1, 0, 0, 0, []),
  (22, .iconst 1, 1, 0, 0, 1, []),
  (23, .aload_n 0, 1, 0, 0, 0, []),
  (24, .getfield 33, 3, 4, 4, 0, []),
  (27, .invokevirtual 57, 3, 17, 2, 4, []),
  (30, .return_, 1, 0, 0, 0, []),
  (31, .aload_n 0, 1, 0, 0, 0, []),
  (32, .dup, 1, 0, 0, 0, []),
  (33, .getfield 33, 3, 4, 4, 0, []),
  (36, .iconst 1, 1, 0, 0, 1, []),
  (37, .iadd, 1, 0, 0, 0, []),
  (38, .putfield 33, 3, 4, 4, 0, []),
  (41, .return_, 1, 0, 0, 0, [])]
theorem gX4_readEnd : jchk 4 cX4_readEnd none 2 40 kX4_readEnd = true := by decide +kernel
def kX4_fail : List jI := [(0, .aload_n 0, 1, 0, 0, 0, []),
  (1, .iload_n 1, 1, 1, 0, 0, []),
  (2, .putfield 36, 3, 4, 5, 0, []),
  (5, .aload_n 0, 1, 0, 0, 0, []),
  (6, .iload_n 2, 1, 2, 0, 0, []),
  (7, .putfield 112, 3, 4, 6, 0, []),
  (10, .return_, 1, 0, 0, 0, [])]
theorem gX4_fail : jchk 4 cX4_fail none 0 0 kX4_fail = true := by decide +kernel
def kX4_skipBlanks : List jI := [(0, .aload_n 0, 1, 0, 0, 0, []),
  (1, .getfield 33, 3, 4, 4, 0, []),
  (4, .aload_n 0, 1, 0, 0, 0, []),
  (5, .getfield 29, 3, 4, 1, 0, []),
  (8, .if_icmp .ge 25, 3, 0, 0, 0, [16]),
  (11, .aload_n 0, 1, 0, 0, 0, []),
  (12, .invokevirtual 49, 3, 19, 0, 4, []),
  (15, .bipush 32, 2, 0, 0, 32, []),
  (17, .if_icmp .ne 16, 3, 0, 0, 0, [16]),
  (20, .aload_n 0, 1, 0, 0, 0, []),
  (21, .dup, 1, 0, 0, 0, []),
  (22, .getfield 33, 3, 4, 4, 0, []),
  (25, .iconst 1, 1, 0, 0, 1, []),
  (26, .iadd, 1, 0, 0, 0, []),
  (27, .putfield 33, 3, 4, 4, 0, []),
  (30, .goto (-30), 3, 0, 0, 0, [0]),
  (33, .return_, 1, 0, 0, 0, [])]
theorem gX4_skipBlanks : jchk 4 cX4_skipBlanks none 1 20 kX4_skipBlanks = true := by decide +kernel
def kX4_letterHere : List jI := [(0, .aload_n 0, 1, 0, 0, 0, []),
  (1, .getfield 33, 3, 4, 4, 0, []),
  (4, .ifCond .lt 36, 3, 0, 0, 0, [18]),
  (7, .aload_n 0, 1, 0, 0, 0, []),
  (8, .getfield 33, 3, 4, 4, 0, []),
  (11, .aload_n 0, 1, 0, 0, 0, []),
  (12, .getfield 29, 3, 4, 1, 0, []),
  (15, .if_icmp .ge 25, 3, 0, 0, 0, [18]),
  (18, .aload_n 0, 1, 0, 0, 0, []),
  (19, .getfield 33, 3, 4, 4, 0, []),
  (22, .sipush 240, 3, 0, 0, 240, []),
  (25, .if_icmp .ge 15, 3, 0, 0, 0, [18]),
  (28, .aload_n 0, 1, 0, 0, 0, []),
  (29, .getfield 9, 3, 4, 0, 0, []),
  (32, .aload_n 0, 1, 0, 0, 0, []),
  (33, .getfield 33, 3, 4, 4, 0, []),
  (36, .iaload, 1, 0, 0, 0, []),
  (37, .goto 4, 3, 0, 0, 0, [19]),
  (40, .iconst (-1), 1, 0, 0, -1, []),
  (41, .ireturn, 1, 0, 0, 0, [])]
theorem gX4_letterHere : jchk 4 cX4_letterHere (some .int) 0 0 kX4_letterHere = true := by decide +kernel
end
section
/-! THE CODE of the methods, with what each instruction needs; checked against the bytes -/
def kX4_isFigure : List jI := [(0, .iload_n 0, 1, 0, 0, 0, []),
  (1, .bipush 48, 2, 0, 0, 48, []),
  (3, .if_icmp .lt 13, 3, 0, 0, 0, [8]),
  (6, .iload_n 0, 1, 0, 0, 0, []),
  (7, .bipush 57, 2, 0, 0, 57, []),
  (9, .if_icmp .gt 7, 3, 0, 0, 0, [8]),
  (12, .iconst 1, 1, 0, 0, 1, []),
  (13, .goto 4, 3, 0, 0, 0, [9]),
  (16, .iconst 0, 1, 0, 0, 0, []),
  (17, .ireturn, 1, 0, 0, 1, [])]
theorem gX4_isFigure : jchk 4 cX4_isFigure (some .boolean) 0 0 kX4_isFigure = true := by decide +kernel
def kX5_empty : List jI := [(0, .aload_n 0, 1, 0, 0, 0, []),
  (1, .iconst 0, 1, 0, 0, 0, []),
  (2, .putfield 21, 3, 5, 1, 0, []),
  (5, .aload_n 0, 1, 0, 0, 0, []),
  (6, .iconst 0, 1, 0, 0, 0, []),
  (7, .putfield 25, 3, 5, 4, 0, []),
  (10, .return_, 1, 0, 0, 0, [])]
theorem gX5_empty : jchk 5 cX5_empty none 0 0 kX5_empty = true := by decide +kernel
def kX5_addPaper : List jI := [(0, .aload_n 0, 1, 0, 0, 0, []),
  (1, .getfield 21, 3, 5, 1, 0, []),
  (4, .bipush 8, 2, 0, 0, 8, []),
  (6, .if_icmp .lt 4, 3, 0, 0, 0, [5]),
  (9, .return_, 1, 0, 0, 0, []),
  (10, .aload_n 0, 1, 0, 0, 0, []),
  (11, .getfield 18, 3, 5, 3, 0, []),
  (14, .aload_n 0, 1, 0, 0, 0, []),
  (15, .getfield 21, 3, 5, 1, 0, []),
  (18, .iload_n 1, 1, 1, 0, 0, []),
  (19, .iastore, 1, 0, 0, 0, []),
  (20, .aload_n 0, 1, 0, 0, 0, []),
  (21, .getfield 15, 3, 5, 2, 0, []),
  (24, .aload_n 0, 1, 0, 0, 0, []),
  (25, .getfield 21, 3, 5, 1, 0, []),
  (28, .iload_n 2, 1, 2, 0, 0, []),
  (29, .iastore, 1, 0, 0, 0, []),
  (30, .aload_n 0, 1, 0, 0, 0, []),
  (31, .dup, 1, 0, 0, 0, []),
  (32, .getfield 21, 3, 5, 1, 0, []),
  (35, .iconst 1, 1, 0, 0, 1, []),
  (36, .iadd, 1, 0, 0, 0, []),
  (37, .putfield 21, 3, 5, 1, 0, []),
  (40, .return_, 1, 0, 0, 0, [])]
theorem gX5_addPaper : jchk 5 cX5_addPaper none 0 0 kX5_addPaper = true := by decide +kernel
def kX5_takeFrom : List jI := [(0, .aload_n 0, 1, 0, 0, 0, []),
  (1, .aload_n 1, 1, 1, 0, 0, []),
  (2, .getfield 21, 3, 5, 1, 0, []),
  (5, .putfield 21, 3, 5, 1, 0, []),
  (8, .aload_n 0, 1, 0, 0, 0, []),
  (9, .aload_n 1, 1, 1, 0, 0, []),
  (10, .getfield 25, 3, 5, 4, 0, []),
  (13, .putfield 25, 3, 5, 4, 0, []),
  (16, .aload_n 1, 1, 1, 0, 0, []),
  (17, .getfield 9, 3, 5, 0, 0, []),
  (20, .iconst 0, 1, 0, 0, 0, []),
  (21, .aload_n 0, 1, 0, 0, 0, []),
  (22, .getfield 9, 3, 5, 0, 0, []),
  (25, .iconst 0, 1, 0, 0, 0, []),
  (26, .bipush 8, 2, 0, 0, 8, []),
  (28, .invokestatic 28, 3, 0, 0, 4, []),
  (31, .aload_n 1, 1, 1, 0, 0, []),
  (32, .getfield 15, 3, 5, 2, 0, []),
  (35, .iconst 0, 1, 0, 0, 0, []),
  (36, .aload_n 0, 1, 0, 0, 0, []),
  (37, .getfield 15, 3, 5, 2, 0, []),
  (40, .iconst 0, 1, 0, 0, 0, []),
  (41, .bipush 8, 2, 0, 0, 8, []),
  (43, .invokestatic 28, 3, 0, 0, 4, []),
  (46, .aload_n 1, 1, 1, 0, 0, []),
  (47, .getfield 18, 3, 5, 3, 0, []),
  (50, .iconst 0, 1, 0, 0, 0, []),
  (51, .aload_n 0, 1, 0, 0, 0, []),
  (52, .getfield 18, 3, 5, 3, 0, []),
  (55, .iconst 0, 1, 0, 0, 0, []),
  (56, .bipush 8, 2, 0, 0, 8, []),
  (58, .invokestatic 28, 3, 0, 0, 4, []),
  (61, .return_, 1, 0, 0, 0, [])]
theorem gX5_takeFrom : jchk 5 cX5_takeFrom none 1 26 kX5_takeFrom = true := by decide +kernel
def kX6_feed : List jI := [(0, .iload_n 1, 1, 1, 0, 0, []),
  (1, .ifCond .lt 10, 3, 0, 0, 0, [5]),
  (4, .iload_n 1, 1, 1, 0, 0, []),
  (5, .sipush 255, 3, 0, 0, 255, []),
  (8, .if_icmp .le 6, 3, 0, 0, 0, [7]),
  (11, .ldc 65, 2, 0, 0, -1000000002, []),
  (13, .ireturn, 1, 0, 0, 0, []),
  (14, .aload_n 0, 1, 0, 0, 0, []),
  (15, .getfield 10, 3, 6, 0, 0, []),
  (18, .getfield 66, 3, 4, 1, 0, []),
  (21, .sipush 240, 3, 0, 0, 240, []),
  (24, .if_icmp .lt 6, 3, 0, 0, 0, [14]),
  (27, .ldc 69, 2, 0, 0, -1000000004, []),
  (29, .ireturn, 1, 0, 0, 0, []),
  (30, .aload_n 0, 1, 0, 0, 0, []),
  (31, .getfield 10, 3, 6, 0, 0, []),
  (34, .iload_n 1, 1, 1, 0, 0, []),
  (35, .invokevirtual 70, 3, 8, 1, 4, []),
  (38, .aload_n 0, 1, 0, 0, 0, []),
  (39, .getfield 10, 3, 6, 0, 0, []),
  (42, .getfield 66, 3, 4, 1, 0, []),
  (45, .ireturn, 1, 0, 0, 0, [])]
theorem gX6_feed : jchk 6 cX6_feed (some .int) 1 21 kX6_feed = true := by decide +kernel
def kX6_clan : List jI := [(0, .aload_n 0, 1, 0, 0, 0, []),
  (1, .getfield 10, 3, 6, 0, 0, []),
  (4, .invokevirtual 74, 3, 9, 0, 4, []),
  (7, .istore_n 1, 1, 1, 0, 0, []),
  (8, .aload_n 0, 1, 0, 0, 0, []),
  (9, .getfield 10, 3, 6, 0, 0, []),
  (12, .iconst 0, 1, 0, 0, 0, []),
  (13, .putfield 66, 3, 4, 1, 0, []),
  (16, .iload_n 1, 1, 1, 0, 0, []),
  (17, .ifCond .eq 19, 3, 0, 0, 0, [19]),
  (20, .aload_n 0, 1, 0, 0, 0, []),
  (21, .aload_n 0, 1, 0, 0, 0, []),
  (22, .getfield 10, 3, 6, 0, 0, []),
  (25, .getfield 78, 3, 4, 6, 0, []),
  (28, .putfield 62, 3, 6, 9, 0, []),
  (31, .bipush (-10), 2, 0, 0, -10, []),
  (33, .iload_n 1, 1, 1, 0, 0, []),
  (34, .isub, 1, 0, 0, 0, []),
  (35, .ireturn, 1, 0, 0, 0, []),
  (36, .aload_n 0, 1, 0, 0, 0, []),
  (37, .iconst (-1), 1, 0, 0, -1, []),
  (38, .putfield 62, 3, 6, 9, 0, []),
  (41, .aload_n 0, 1, 0, 0, 0, []),
  (42, .getfield 19, 3, 6, 1, 0, []),
  (45, .aload_n 0, 1, 0, 0, 0, []),
  (46, .getfield 10, 3, 6, 0, 0, []),
  (49, .getfield 79, 3, 4, 2, 0, []),
  (52, .invokevirtual 82, 3, 1, 1, 0, []),
  (55, .aload_n 0, 1, 0, 0, 0, []),
  (56, .getfield 26, 3, 6, 2, 0, []),
  (59, .aload_n 0, 1, 0, 0, 0, []),
  (60, .getfield 10, 3, 6, 0, 0, []),
  (63, .getfield 86, 3, 4, 3, 0, []),
  (66, .invokevirtual 89, 3, 23, 1, 5, []),
  (69, .aload_n 0, 1, 0, 0, 0, []),
  (70, .getfield 50, 3, 6, 6, 0, []),
  (73, .invokevirtual 92, 3, 7, 0, 3, []),
  (76, .aload_n 0, 1, 0, 0, 0, []),
  (77, .getfield 36, 3, 6, 4, 0, []),
  (80, .invokevirtual 95, 3, 4, 0, 1, []),
  (83, .iconst 0, 1, 0, 0, 0, []),
  (84, .istore_n 2, 1, 2, 0, 0, []),
  (85, .iload_n 2, 1, 2, 0, 0, []),
  (86, .iconst 2, 1, 0, 0, 2, []),
  (87, .if_icmp .ge 19, 3, 0, 0, 0, [53]),
  (90, .aload_n 0, 1, 0, 0, 0, []),
  (91, .getfield 42, 3, 6, 5, 0, []),
  (94, .iload_n 2, 1, 2, 0, 0, []),
  (95, .aaload, 1, 10, 0, 0, []),
  (96, .iconst 0, 1, 0, 0, 0, []),
  (97, .putfield 98, 3, 2, 0, 1, []),
  (100, .iinc 2 1, 3, 2, 0, 1, []),
  (103, .goto (-18), 3, 0, 0, 0, [42]),
  (106, .aload_n 0, 1, 0, 0, 0, []),
  (107, .getfield 19, 3, 6, 1, 0, []),
  (110, .getfield 102, 3, 0, 2, 0, []),
  (113, .ireturn, 1, 0, 0, 0, [])]
theorem gX6_clan : jchk 6 cX6_clan (some .int) 6 129 kX6_clan = true := by decide +kernel
def kX6_fault : List jI := [(0, .aload_n 0, 1, 0, 0, 0, []),
  (1, .getfield 62, 3, 6, 9, 0, []),
  (4, .ireturn, 1, 0, 0, 0, [])]
theorem gX6_fault : jchk 6 cX6_fault (some .int) 0 0 kX6_fault = true := by decide +kernel
def kX6_told : List jI := [(0, .iload_n 1, 1, 1, 0, 0, []),
  (1, .tableswitch 143 0 9 #[55, 71, 79, 87, 95, 103, 111, 119, 127, 135], 55, 0, 0, 0, [46, 2, 10, 14, 18, 22, 26, 30, 34, 38, 42]),
  (56, .aload_n 0, 1, 0, 0, 0, []),
  (57, .getfield 19, 3, 6, 1, 0, []),
  (60, .getfield 105, 3, 0, 0, 0, []),
  (63, .ifCond .eq 7, 3, 0, 0, 0, [8]),
  (66, .iconst 1, 1, 0, 0, 1, []),
  (67, .goto 4, 3, 0, 0, 0, [9]),
  (70, .iconst 0, 1, 0, 0, 0, []),
  (71, .ireturn, 1, 0, 0, 0, []),
  (72, .aload_n 0, 1, 0, 0, 0, []),
  (73, .getfield 19, 3, 6, 1, 0, []),
  (76, .getfield 108, 3, 0, 1, 0, []),
  (79, .ireturn, 1, 0, 0, 0, []),
  (80, .aload_n 0, 1, 0, 0, 0, []),
  (81, .getfield 19, 3, 6, 1, 0, []),
  (84, .getfield 102, 3, 0, 2, 0, []),
  (87, .ireturn, 1, 0, 0, 0, []),
  (88, .aload_n 0, 1, 0, 0, 0, []),
  (89, .getfield 26, 3, 6, 2, 0, []),
  (92, .getfield 111, 3, 5, 1, 0, []),
  (95, .ireturn, 1, 0, 0, 0, []),
  (96, .aload_n 0, 1, 0, 0, 0, []),
  (97, .getfield 19, 3, 6, 1, 0, []),
  (100, .getfield 114, 3, 0, 5, 0, []),
  (103, .ireturn, 1, 0, 0, 0, []),
  (104, .aload_n 0, 1, 0, 0, 0, []),
  (105, .getfield 10, 3, 6, 0, 0, []),
  (108, .getfield 66, 3, 4, 1, 0, []),
  (111, .ireturn, 1, 0, 0, 0, []),
  (112, .aload_n 0, 1, 0, 0, 0, []),
  (113, .getfield 26, 3, 6, 2, 0, []),
  (116, .getfield 117, 3, 5, 4, 0, []),
  (119, .ireturn, 1, 0, 0, 0, []),
  (120, .aload_n 0, 1, 0, 0, 0, []),
  (121, .getfield 50, 3, 6, 6, 0, []),
  (124, .getfield 120, 3, 3, 0, 0, []),
  (127, .ireturn, 1, 0, 0, 0, []),
  (128, .aload_n 0, 1, 0, 0, 0, []),
  (129, .getfield 50, 3, 6, 6, 0, []),
  (132, .getfield 123, 3, 3, 2, 0, []),
  (135, .ireturn, 1, 0, 0, 0, []),
  (136, .aload_n 0, 1, 0, 0, 0, []),
  (137, .getfield 36, 3, 6, 4, 0, []),
  (140, .getfield 126, 3, 1, 1, 0, []),
  (143, .ireturn, 1, 0, 0, 0, []),
  (144, .ldc 65, 2, 0, 0, -1000000002, []),
  (146, .ireturn, 1, 0, 0, 0, [])]
theorem gX6_told : jchk 6 cX6_told (some .int) 0 0 kX6_told = true := by decide +kernel
def kX6_person : List jI := [(0, .aload_n 0, 1, 0, 0, 0, []),
  (1, .iload_n 1, 1, 1, 0, 0, []),
  (2, .invokevirtual 129, 3, 61, 1, 6, []),
  (5, .ifCond .ne 6, 3, 0, 0, 0, [6]),
  (8, .ldc 133, 2, 0, 0, -1000000001, []),
  (10, .ireturn, 1, 0, 0, 0, []),
  (11, .iload_n 2, 1, 2, 0, 0, []),
  (12, .tableswitch 82 0 3 #[32, 42, 52, 62], 32, 0, 0, 0, [36, 8, 14, 20, 26]),
  (44, .aload_n 0, 1, 0, 0, 0, []),
  (45, .getfield 26, 3, 6, 2, 0, []),
  (48, .getfield 134, 3, 5, 0, 0, []),
  (51, .iload_n 1, 1, 1, 0, 0, []),
  (52, .iaload, 1, 0, 0, 0, []),
  (53, .ireturn, 1, 0, 0, 0, []),
  (54, .aload_n 0, 1, 0, 0, 0, []),
  (55, .getfield 19, 3, 6, 1, 0, []),
  (58, .getfield 137, 3, 0, 3, 0, []),
  (61, .iload_n 1, 1, 1, 0, 0, []),
  (62, .iaload, 1, 0, 0, 0, []),
  (63, .ireturn, 1, 0, 0, 0, []),
  (64, .aload_n 0, 1, 0, 0, 0, []),
  (65, .getfield 19, 3, 6, 1, 0, []),
  (68, .getfield 140, 3, 0, 4, 0, []),
  (71, .iload_n 1, 1, 1, 0, 0, []),
  (72, .iaload, 1, 0, 0, 0, []),
  (73, .ireturn, 1, 0, 0, 0, []),
  (74, .aload_n 0, 1, 0, 0, 0, []),
  (75, .getfield 26, 3, 6, 2, 0, []),
  (78, .getfield 134, 3, 5, 0, 0, []),
  (81, .iload_n 1, 1, 1, 0, 0, []),
  (82, .iaload, 1, 0, 0, 0, []),
  (83, .aload_n 0, 1, 0, 0, 0, []),
  (84, .getfield 19, 3, 6, 1, 0, []),
  (87, .getfield 108, 3, 0, 1, 0, []),
  (90, .invokestatic 143, 3, 67, 2, 0, []),
  (93, .ireturn, 1, 0, 0, 0, []),
  (94, .ldc 65, 2, 0, 0, -1000000002, []),
  (96, .ireturn, 1, 0, 0, 0, [])]
theorem gX6_person : jchk 6 cX6_person (some .int) 2 42 kX6_person = true := by decide +kernel
def kX6_paper : List jI := [(0, .aload_n 0, 1, 0, 0, 0, []),
  (1, .iload_n 1, 1, 1, 0, 0, []),
  (2, .invokevirtual 147, 3, 62, 1, 6, []),
  (5, .ifCond .ne 6, 3, 0, 0, 0, [6]),
  (8, .ldc 133, 2, 0, 0, -1000000001, []),
  (10, .ireturn, 1, 0, 0, 0, []),
  (11, .iload_n 2, 1, 2, 0, 0, []),
  (12, .lookupswitch 48 #[(0, 28), (1, 38)], 28, 0, 0, 0, [20, 8, 14]),
  (40, .aload_n 0, 1, 0, 0, 0, []),
  (41, .getfield 26, 3, 6, 2, 0, []),
  (44, .getfield 150, 3, 5, 2, 0, []),
  (47, .iload_n 1, 1, 1, 0, 0, []),
  (48, .iaload, 1, 0, 0, 0, []),
  (49, .ireturn, 1, 0, 0, 0, []),
  (50, .aload_n 0, 1, 0, 0, 0, []),
  (51, .getfield 26, 3, 6, 2, 0, []),
  (54, .getfield 153, 3, 5, 3, 0, []),
  (57, .iload_n 1, 1, 1, 0, 0, []),
  (58, .iaload, 1, 0, 0, 0, []),
  (59, .ireturn, 1, 0, 0, 0, []),
  (60, .ldc 65, 2, 0, 0, -1000000002, []),
  (62, .ireturn, 1, 0, 0, 0, [])]
theorem gX6_paper : jchk 6 cX6_paper (some .int) 1 21 kX6_paper = true := by decide +kernel
def kX6_candidate : List jI := [(0, .aload_n 0, 1, 0, 0, 0, []),
  (1, .iload_n 1, 1, 1, 0, 0, []),
  (2, .invokevirtual 156, 3, 63, 1, 6, []),
  (5, .ifCond .eq 15, 3, 0, 0, 0, [10]),
  (8, .aload_n 0, 1, 0, 0, 0, []),
  (9, .getfield 19, 3, 6, 1, 0, []),
  (12, .getfield 159, 3, 0, 6, 0, []),
  (15, .iload_n 1, 1, 1, 0, 0, []),
  (16, .iaload, 1, 0, 0, 0, []),
  (17, .goto 5, 3, 0, 0, 0, [11]),
  (20, .ldc 133, 2, 0, 0, -1000000001, []),
  (22, .ireturn, 1, 0, 0, 0, [])]
theorem gX6_candidate : jchk 6 cX6_candidate (some .int) 1 21 kX6_candidate = true := by decide +kernel
def kX6_year : List jI := [(0, .iload_n 1, 1, 1, 0, 0, []),
  (1, .iconst 1, 1, 0, 0, 1, []),
  (2, .if_icmp .lt 9, 3, 0, 0, 0, [6]),
  (5, .iload_n 1, 1, 1, 0, 0, []),
  (6, .bipush 60, 2, 0, 0, 60, []),
  (8, .if_icmp .le 6, 3, 0, 0, 0, [8]),
  (11, .ldc 65, 2, 0, 0, -1000000002, []),
  (13, .ireturn, 1, 0, 0, 0, []),
  (14, .aload_n 0, 1, 0, 0, 0, []),
  (15, .getfield 19, 3, 6, 1, 0, []),
  (18, .getfield 105, 3, 0, 0, 0, []),
  (21, .ifCond .ne 6, 3, 0, 0, 0, [14]),
  (24, .ldc 162, 2, 0, 0, -1000000003, []),
  (26, .ireturn, 1, 0, 0, 0, []),
  (27, .aload_n 0, 1, 0, 0, 0, []),
  (28, .getfield 26, 3, 6, 2, 0, []),
  (31, .getfield 117, 3, 5, 4, 0, []),
  (34, .sipush 9000, 3, 0, 0, 9000, []),
  (37, .if_icmp .le 6, 3, 0, 0, 0, [21]),
  (40, .ldc 69, 2, 0, 0, -1000000004, []),
  (42, .ireturn, 1, 0, 0, 0, []),
  (43, .aload_n 0, 1, 0, 0, 0, []),
  (44, .getfield 36, 3, 6, 4, 0, []),
  (47, .aload_n 0, 1, 0, 0, 0, []),
  (48, .getfield 26, 3, 6, 2, 0, []),
  (51, .invokevirtual 163, 3, 2, 1, 1, []),
  (54, .aload_n 0, 1, 0, 0, 0, []),
  (55, .aload_n 0, 1, 0, 0, 0, []),
  (56, .getfield 26, 3, 6, 2, 0, []),
  (59, .iload_n 1, 1, 1, 0, 0, []),
  (60, .invokevirtual 166, 3, 80, 2, 6, []),
  (63, .aload_n 0, 1, 0, 0, 0, []),
  (64, .getfield 26, 3, 6, 2, 0, []),
  (67, .getfield 117, 3, 5, 4, 0, []),
  (70, .ireturn, 1, 0, 0, 0, [])]
theorem gX6_year : jchk 6 cX6_year (some .int) 3 72 kX6_year = true := by decide +kernel
def kX6_teach : List jI := [(0, .aload_n 0, 1, 0, 0, 0, []),
  (1, .iload_n 1, 1, 1, 0, 0, []),
  (2, .invokevirtual 129, 3, 61, 1, 6, []),
  (5, .ifCond .ne 6, 3, 0, 0, 0, [6]),
  (8, .ldc 133, 2, 0, 0, -1000000001, []),
  (10, .ireturn, 1, 0, 0, 0, []),
  (11, .iload_n 2, 1, 2, 0, 0, []),
  (12, .invokestatic 170, 3, 65, 1, 0, []),
  (15, .ifCond .ne 6, 3, 0, 0, 0, [11]),
  (18, .ldc 65, 2, 0, 0, -1000000002, []),
  (20, .ireturn, 1, 0, 0, 0, []),
  (21, .aload_n 0, 1, 0, 0, 0, []),
  (22, .getfield 36, 3, 6, 4, 0, []),
  (25, .aload_n 0, 1, 0, 0, 0, []),
  (26, .getfield 26, 3, 6, 2, 0, []),
  (29, .invokevirtual 163, 3, 2, 1, 1, []),
  (32, .aload_n 0, 1, 0, 0, 0, []),
  (33, .getfield 26, 3, 6, 2, 0, []),
  (36, .getfield 134, 3, 5, 0, 0, []),
  (39, .iload_n 1, 1, 1, 0, 0, []),
  (40, .iaload, 1, 0, 0, 0, []),
  (41, .iload_n 2, 1, 2, 0, 0, []),
  (42, .invokestatic 143, 3, 67, 2, 0, []),
  (45, .istore_n 3, 1, 3, 0, 0, []),
  (46, .aload_n 0, 1, 0, 0, 0, []),
  (47, .getfield 26, 3, 6, 2, 0, []),
  (50, .getfield 134, 3, 5, 0, 0, []),
  (53, .iload_n 1, 1, 1, 0, 0, []),
  (54, .iload_n 2, 1, 2, 0, 0, []),
  (55, .iastore, 1, 0, 0, 0, []),
  (56, .iload_n 3, 1, 3, 0, 0, []),
  (57, .ireturn, 1, 0, 0, 0, [])]
theorem gX6_teach : jchk 6 cX6_teach (some .int) 3 68 kX6_teach = true := by decide +kernel
def kX6_sign : List jI := [(0, .aload_n 0, 1, 0, 0, 0, []),
  (1, .iload_n 1, 1, 1, 0, 0, []),
  (2, .invokevirtual 129, 3, 61, 1, 6, []),
  (5, .ifCond .ne 6, 3, 0, 0, 0, [6]),
  (8, .ldc 133, 2, 0, 0, -1000000001, []),
  (10, .ireturn, 1, 0, 0, 0, []),
  (11, .iload_n 2, 1, 2, 0, 0, []),
  (12, .invokestatic 170, 3, 65, 1, 0, []),
  (15, .ifCond .ne 6, 3, 0, 0, 0, [11]),
  (18, .ldc 65, 2, 0, 0, -1000000002, []),
  (20, .ireturn, 1, 0, 0, 0, []),
  (21, .aload_n 0, 1, 0, 0, 0, []),
  (22, .getfield 26, 3, 6, 2, 0, []),
  (25, .getfield 111, 3, 5, 1, 0, []),
  (28, .bipush 8, 2, 0, 0, 8, []),
  (30, .if_icmp .lt 6, 3, 0, 0, 0, [18]),
  (33, .ldc 69, 2, 0, 0, -1000000004, []),
  (35, .ireturn, 1, 0, 0, 0, []),
  (36, .aload_n 0, 1, 0, 0, 0, []),
  (37, .getfield 36, 3, 6, 4, 0, []),
  (40, .aload_n 0, 1, 0, 0, 0, []),
  (41, .getfield 26, 3, 6, 2, 0, []),
  (44, .invokevirtual 163, 3, 2, 1, 1, []),
  (47, .aload_n 0, 1, 0, 0, 0, []),
  (48, .getfield 26, 3, 6, 2, 0, []),
  (51, .iload_n 1, 1, 1, 0, 0, []),
  (52, .iload_n 2, 1, 2, 0, 0, []),
  (53, .invokevirtual 173, 3, 22, 2, 5, []),
  (56, .aload_n 0, 1, 0, 0, 0, []),
  (57, .getfield 26, 3, 6, 2, 0, []),
  (60, .getfield 111, 3, 5, 1, 0, []),
  (63, .ireturn, 1, 0, 0, 0, [])]
theorem gX6_sign : jchk 6 cX6_sign (some .int) 3 68 kX6_sign = true := by decide +kernel
def kX6_tearPaper : List jI := [(0, .aload_n 0, 1, 0, 0, 0, []),
  (1, .getfield 26, 3, 6, 2, 0, []),
  (4, .getfield 111, 3, 5, 1, 0, []),
  (7, .iconst 1, 1, 0, 0, 1, []),
  (8, .isub, 1, 0, 0, 0, []),
  (9, .istore_n 1, 1, 1, 0, 0, []),
  (10, .aload_n 0, 1, 0, 0, 0, []),
  (11, .iload_n 1, 1, 1, 0, 0, []),
  (12, .invokevirtual 147, 3, 62, 1, 6, []),
  (15, .ifCond .ne 6, 3, 0, 0, 0, [12]),
  (18, .ldc 162, 2, 0, 0, -1000000003, []),
  (20, .ireturn, 1, 0, 0, 0, []),
  (21, .aload_n 0, 1, 0, 0, 0, []),
  (22, .getfield 36, 3, 6, 4, 0, []),
  (25, .aload_n 0, 1, 0, 0, 0, []),
  (26, .getfield 26, 3, 6, 2, 0, []),
  (29, .invokevirtual 163, 3, 2, 1, 1, []),
  (32, .aload_n 0, 1, 0, 0, 0, []),
  (33, .getfield 26, 3, 6, 2, 0, []),
  (36, .iload_n 1, 1, 1, 0, 0, []),
  (37, .putfield 111, 3, 5, 1, 0, []),
  (40, .aload_n 0, 1, 0, 0, 0, []),
  (41, .getfield 26, 3, 6, 2, 0, []),
  (44, .getfield 150, 3, 5, 2, 0, []),
  (47, .iload_n 1, 1, 1, 0, 0, []),
  (48, .iaload, 1, 0, 0, 0, []),
  (49, .ireturn, 1, 0, 0, 0, [])]
theorem gX6_tearPaper : jchk 6 cX6_tearPaper (some .int) 3 68 kX6_tearPaper = true := by decide +kernel
def kX6_drift : List jI := [(0, .iload_n 1, 1, 1, 0, 0, []),
  (1, .iconst 1, 1, 0, 0, 1, []),
  (2, .if_icmp .lt 9, 3, 0, 0, 0, [6]),
  (5, .iload_n 1, 1, 1, 0, 0, []),
  (6, .bipush 60, 2, 0, 0, 60, []),
  (8, .if_icmp .le 6, 3, 0, 0, 0, [8]),
  (11, .ldc 65, 2, 0, 0, -1000000002, []),
  (13, .ireturn, 1, 0, 0, 0, []),
  (14, .aload_n 0, 1, 0, 0, 0, []),
  (15, .getfield 19, 3, 6, 1, 0, []),
  (18, .getfield 105, 3, 0, 0, 0, []),
  (21, .ifCond .ne 6, 3, 0, 0, 0, [14]),
  (24, .ldc 162, 2, 0, 0, -1000000003, []),
  (26, .ireturn, 1, 0, 0, 0, []),
  (27, .aload_n 0, 1, 0, 0, 0, []),
  (28, .getfield 36, 3, 6, 4, 0, []),
  (31, .aload_n 0, 1, 0, 0, 0, []),
  (32, .getfield 26, 3, 6, 2, 0, []),
  (35, .invokevirtual 163, 3, 2, 1, 1, []),
  (38, .aload_n 0, 1, 0, 0, 0, []),
  (39, .getfield 30, 3, 6, 3, 0, []),
  (42, .aload_n 0, 1, 0, 0, 0, []),
  (43, .getfield 26, 3, 6, 2, 0, []),
  (46, .invokevirtual 89, 3, 23, 1, 5, []),
  (49, .aload_n 0, 1, 0, 0, 0, []),
  (50, .getfield 19, 3, 6, 1, 0, []),
  (53, .getfield 102, 3, 0, 2, 0, []),
  (56, .ifCond .le 20, 3, 0, 0, 0, [37]),
  (59, .iconst 0, 1, 0, 0, 0, []),
  (60, .istore_n 2, 1, 2, 0, 0, []),
  (61, .iload_n 2, 1, 2, 0, 0, []),
  (62, .iload_n 1, 1, 1, 0, 0, []),
  (63, .if_icmp .ge 13, 3, 0, 0, 0, [37]),
  (66, .aload_n 0, 1, 0, 0, 0, []),
  (67, .invokevirtual 177, 3, 82, 0, 6, []),
  (70, .iinc 2 1, 3, 2, 0, 1, []),
  (73, .goto (-12), 3, 0, 0, 0, [30]),
  (76, .iconst 0, 1, 0, 0, 0, []),
  (77, .istore_n 2, 1, 2, 0, 0, []),
  (78, .iconst 0, 1, 0, 0, 0, []),
  (79, .istore_n 3, 1, 3, 0, 0, []),
  (80, .iload_n 3, 1, 3, 0, 0, []),
  (81, .aload_n 0, 1, 0, 0, 0, []),
  (82, .getfield 19, 3, 6, 1, 0, []),
  (85, .getfield 102, 3, 0, 2, 0, []),
  (88, .if_icmp .ge 33, 3, 0, 0, 0, [60]),
  (91, .aload_n 0, 1, 0, 0, 0, []),
  (92, .getfield 26, 3, 6, 2, 0, []),
  (95, .getfield 134, 3, 5, 0, 0, []),
  (98, .iload_n 3, 1, 3, 0, 0, []),
  (99, .iaload, 1, 0, 0, 0, []),
  (100, .aload_n 0, 1, 0, 0, 0, []),
  (101, .getfield 30, 3, 6, 3, 0, []),
  (104, .getfield 134, 3, 5, 0, 0, []),
  (107, .iload_n 3, 1, 3, 0, 0, []),
  (108, .iaload, 1, 0, 0, 0, []),
  (109, .if_icmp .eq 6, 3, 0, 0, 0, [58]),
  (112, .iinc 2 1, 3, 2, 0, 1, []),
  (115, .iinc 3 1, 3, 3, 0, 1, []),
  (118, .goto (-38), 3, 0, 0, 0, [41]),
  (121, .iload_n 2, 1, 2, 0, 0, []),
  (122, .ireturn, 1, 0, 0, 0, [])]
theorem gX6_drift : jchk 6 cX6_drift (some .int) 3 68 kX6_drift = true := by decide +kernel
def kX6_undo : List jI := [(0, .aload_n 0, 1, 0, 0, 0, []),
  (1, .getfield 36, 3, 6, 4, 0, []),
  (4, .getfield 126, 3, 1, 1, 0, []),
  (7, .ifCond .gt 6, 3, 0, 0, 0, [6]),
  (10, .ldc 162, 2, 0, 0, -1000000003, []),
  (12, .ireturn, 1, 0, 0, 0, []),
  (13, .aload_n 0, 1, 0, 0, 0, []),
  (14, .getfield 36, 3, 6, 4, 0, []),
  (17, .aload_n 0, 1, 0, 0, 0, []),
  (18, .getfield 26, 3, 6, 2, 0, []),
  (21, .invokevirtual 180, 3, 3, 1, 1, []),
  (24, .aload_n 0, 1, 0, 0, 0, []),
  (25, .getfield 36, 3, 6, 4, 0, []),
  (28, .getfield 126, 3, 1, 1, 0, []),
  (31, .ireturn, 1, 0, 0, 0, [])]
theorem gX6_undo : jchk 6 cX6_undo (some .int) 3 68 kX6_undo = true := by decide +kernel
def kX6_whose : List jI := [(0, .iload_n 1, 1, 1, 0, 0, []),
  (1, .invokestatic 170, 3, 65, 1, 0, []),
  (4, .ifCond .eq 11, 3, 0, 0, 0, [7]),
  (7, .aload_n 0, 1, 0, 0, 0, []),
  (8, .iload_n 1, 1, 1, 0, 0, []),
  (9, .invokevirtual 183, 3, 70, 1, 6, []),
  (12, .goto 5, 3, 0, 0, 0, [8]),
  (15, .ldc 65, 2, 0, 0, -1000000002, []),
  (17, .ireturn, 1, 0, 0, 0, [])]
theorem gX6_whose : jchk 6 cX6_whose (some .int) 4 88 kX6_whose = true := by decide +kernel
def kX6_odds : List jI := [(0, .aload_n 0, 1, 0, 0, 0, []),
  (1, .iload_n 1, 1, 1, 0, 0, []),
  (2, .invokevirtual 129, 3, 61, 1, 6, []),
  (5, .ifCond .ne 6, 3, 0, 0, 0, [6]),
  (8, .ldc 133, 2, 0, 0, -1000000001, []),
  (10, .ireturn, 1, 0, 0, 0, []),
  (11, .iload_n 2, 1, 2, 0, 0, []),
  (12, .invokestatic 170, 3, 65, 1, 0, []),
  (15, .ifCond .ne 6, 3, 0, 0, 0, [11]),
  (18, .ldc 65, 2, 0, 0, -1000000002, []),
  (20, .ireturn, 1, 0, 0, 0, []),
  (21, .aload_n 0, 1, 0, 0, 0, []),
  (22, .iload_n 2, 1, 2, 0, 0, []),
  (23, .iload_n 1, 1, 1, 0, 0, []),
  (24, .invokevirtual 187, 3, 69, 2, 6, []),
  (27, .ifCond .ne 5, 3, 0, 0, 0, [18]),
  (30, .iconst 0, 1, 0, 0, 0, []),
  (31, .ireturn, 1, 0, 0, 0, []),
  (32, .lconst 0, 1, 0, 0, 0, []),
  (33, .lstore_n 3, 1, 3, 0, 0, []),
  (34, .iconst 0, 1, 0, 0, 0, []),
  (35, .istore 5, 2, 5, 0, 0, []),
  (37, .iload 5, 2, 5, 0, 0, []),
  (39, .aload_n 0, 1, 0, 0, 0, []),
  (40, .getfield 19, 3, 6, 1, 0, []),
  (43, .getfield 102, 3, 0, 2, 0, []),
  (46, .if_icmp .ge 29, 3, 0, 0, 0, [41]),
  (49, .aload_n 0, 1, 0, 0, 0, []),
  (50, .iload_n 2, 1, 2, 0, 0, []),
  (51, .iload 5, 2, 5, 0, 0, []),
  (53, .invokevirtual 187, 3, 69, 2, 6, []),
  (56, .ifCond .eq 13, 3, 0, 0, 0, [39]),
  (59, .lload_n 3, 1, 3, 0, 0, []),
  (60, .aload_n 0, 1, 0, 0, 0, []),
  (61, .iload 5, 2, 5, 0, 0, []),
  (63, .invokevirtual 191, 3, 72, 1, 6, []),
  (66, .i2l, 1, 0, 0, 0, []),
  (67, .ladd, 1, 0, 0, 0, []),
  (68, .lstore_n 3, 1, 3, 0, 0, []),
  (69, .iinc 5 1, 3, 5, 0, 1, []),
  (72, .goto (-35), 3, 0, 0, 0, [22]),
  (75, .lload_n 3, 1, 3, 0, 0, []),
  (76, .lconst 0, 1, 0, 0, 0, []),
  (77, .lcmp, 1, 0, 0, 0, []),
  (78, .ifCond .gt 7, 3, 0, 0, 0, [47]),
  (81, .iconst 0, 1, 0, 0, 0, []),
  (82, .goto 16, 3, 0, 0, 0, [56]),
  (85, .aload_n 0, 1, 0, 0, 0, []),
  (86, .iload_n 1, 1, 1, 0, 0, []),
  (87, .invokevirtual 191, 3, 72, 1, 6, []),
  (90, .i2l, 1, 0, 0, 0, []),
  (91, .ldc2_w 194, 3, 0, 0, 1000000, []),
  (94, .lmul, 1, 0, 0, 0, []),
  (95, .lload_n 3, 1, 3, 0, 0, []),
  (96, .ldiv, 1, 0, 0, 0, []),
  (97, .l2i, 1, 0, 0, 0, []),
  (98, .ireturn, 1, 0, 0, 0, [])]
theorem gX6_odds : jchk 6 cX6_odds (some .int) 3 68 kX6_odds = true := by decide +kernel
def kX6_marks : List jI := [(0, .aload_n 0, 1, 0, 0, 0, []),
  (1, .iload_n 1, 1, 1, 0, 0, []),
  (2, .invokevirtual 129, 3, 61, 1, 6, []),
  (5, .ifCond .eq 11, 3, 0, 0, 0, [8]),
  (8, .aload_n 0, 1, 0, 0, 0, []),
  (9, .iload_n 1, 1, 1, 0, 0, []),
  (10, .invokevirtual 196, 3, 71, 1, 6, []),
  (13, .goto 5, 3, 0, 0, 0, [9]),
  (16, .ldc 133, 2, 0, 0, -1000000001, []),
  (18, .ireturn, 1, 0, 0, 0, [])]
theorem gX6_marks : jchk 6 cX6_marks (some .int) 2 46 kX6_marks = true := by decide +kernel
end
section
/-! THE CODE of the methods, with what each instruction needs; checked against the bytes -/
def kX6_tree : List jI := [(0, .iconst 0, 1, 0, 0, 0, []),
  (1, .istore_n 2, 1, 2, 0, 0, []),
  (2, .iload_n 2, 1, 2, 0, 0, []),
  (3, .aload_n 0, 1, 0, 0, 0, []),
  (4, .getfield 19, 3, 6, 1, 0, []),
  (7, .getfield 102, 3, 0, 2, 0, []),
  (10, .if_icmp .ge 16, 3, 0, 0, 0, [14]),
  (13, .aload_n 0, 1, 0, 0, 0, []),
  (14, .getfield 54, 3, 6, 7, 0, []),
  (17, .iload_n 2, 1, 2, 0, 0, []),
  (18, .iload_n 2, 1, 2, 0, 0, []),
  (19, .iastore, 1, 0, 0, 0, []),
  (20, .iinc 2 1, 3, 2, 0, 1, []),
  (23, .goto (-21), 3, 0, 0, 0, [2]),
  (26, .iconst 0, 1, 0, 0, 0, []),
  (27, .istore_n 2, 1, 2, 0, 0, []),
  (28, .iconst 0, 1, 0, 0, 0, []),
  (29, .istore_n 3, 1, 3, 0, 0, []),
  (30, .iload_n 3, 1, 3, 0, 0, []),
  (31, .aload_n 0, 1, 0, 0, 0, []),
  (32, .getfield 19, 3, 6, 1, 0, []),
  (35, .getfield 102, 3, 0, 2, 0, []),
  (38, .iconst 1, 1, 0, 0, 1, []),
  (39, .isub, 1, 0, 0, 0, []),
  (40, .if_icmp .ge 78, 3, 0, 0, 0, [65]),
  (43, .aload_n 0, 1, 0, 0, 0, []),
  (44, .invokevirtual 199, 3, 76, 0, 6, []),
  (47, .istore 4, 2, 4, 0, 0, []),
  (49, .iload 4, 2, 4, 0, 0, []),
  (51, .iconst (-1), 1, 0, 0, -1, []),
  (52, .if_icmp .ne 6, 3, 0, 0, 0, [32]),
  (55, .goto 63, 3, 0, 0, 0, [65]),
  (58, .iload_n 3, 1, 3, 0, 0, []),
  (59, .iload_n 1, 1, 1, 0, 0, []),
  (60, .if_icmp .ne 6, 3, 0, 0, 0, [37]),
  (63, .iload 4, 2, 4, 0, 0, []),
  (65, .ireturn, 1, 0, 0, 0, []),
  (66, .iload_n 2, 1, 2, 0, 0, []),
  (67, .aload_n 0, 1, 0, 0, 0, []),
  (68, .getfield 26, 3, 6, 2, 0, []),
  (71, .getfield 134, 3, 5, 0, 0, []),
  (74, .iload 4, 2, 4, 0, 0, []),
  (76, .bipush 10, 2, 0, 0, 10, []),
  (78, .idiv, 1, 0, 0, 0, []),
  (79, .iaload, 1, 0, 0, 0, []),
  (80, .aload_n 0, 1, 0, 0, 0, []),
  (81, .getfield 26, 3, 6, 2, 0, []),
  (84, .getfield 134, 3, 5, 0, 0, []),
  (87, .iload 4, 2, 4, 0, 0, []),
  (89, .bipush 10, 2, 0, 0, 10, []),
  (91, .irem, 1, 0, 0, 0, []),
  (92, .iaload, 1, 0, 0, 0, []),
  (93, .invokestatic 143, 3, 67, 2, 0, []),
  (96, .iadd, 1, 0, 0, 0, []),
  (97, .istore_n 2, 1, 2, 0, 0, []),
  (98, .aload_n 0, 1, 0, 0, 0, []),
  (99, .iload 4, 2, 4, 0, 0, []),
  (101, .bipush 10, 2, 0, 0, 10, []),
  (103, .idiv, 1, 0, 0, 0, []),
  (104, .iload 4, 2, 4, 0, 0, []),
  (106, .bipush 10, 2, 0, 0, 10, []),
  (108, .irem, 1, 0, 0, 0, []),
  (109, .invokevirtual 202, 3, 77, 2, 6, []),
  (112, .iinc 3 1, 3, 3, 0, 1, []),
  (115, .goto (-85), 3, 0, 0, 0, [18]),
  (118, .iload_n 1, 1, 1, 0, 0, []),
  (119, .iconst (-1), 1, 0, 0, -1, []),
  (120, .if_icmp .ne 7, 3, 0, 0, 0, [70]),
  (123, .iload_n 2, 1, 2, 0, 0, []),
  (124, .goto 4, 3, 0, 0, 0, [71]),
  (127, .iconst (-1), 1, 0, 0, -1, []),
  (128, .ireturn, 1, 0, 0, 0, [])]
theorem gX6_tree : jchk 6 cX6_tree (some .int) 3 67 kX6_tree = true := by decide +kernel
def kX6_kin : List jI := [(0, .aload_n 0, 1, 0, 0, 0, []),
  (1, .iload_n 1, 1, 1, 0, 0, []),
  (2, .invokevirtual 129, 3, 61, 1, 6, []),
  (5, .ifCond .eq 11, 3, 0, 0, 0, [8]),
  (8, .aload_n 0, 1, 0, 0, 0, []),
  (9, .iload_n 1, 1, 1, 0, 0, []),
  (10, .invokevirtual 205, 3, 75, 1, 6, []),
  (13, .goto 5, 3, 0, 0, 0, [9]),
  (16, .ldc 133, 2, 0, 0, -1000000001, []),
  (18, .ireturn, 1, 0, 0, 0, [])]
theorem gX6_kin : jchk 6 cX6_kin (some .int) 3 67 kX6_kin = true := by decide +kernel
def kX6_most : List jI := [(0, .iconst 0, 1, 0, 0, 0, []),
  (1, .istore_n 1, 1, 1, 0, 0, []),
  (2, .iconst 0, 1, 0, 0, 0, []),
  (3, .istore_n 2, 1, 2, 0, 0, []),
  (4, .iconst 1, 1, 0, 0, 1, []),
  (5, .aload_n 0, 1, 0, 0, 0, []),
  (6, .getfield 19, 3, 6, 1, 0, []),
  (9, .getfield 102, 3, 0, 2, 0, []),
  (12, .ishl, 1, 0, 0, 0, []),
  (13, .istore_n 3, 1, 3, 0, 0, []),
  (14, .iconst 1, 1, 0, 0, 1, []),
  (15, .istore 4, 2, 4, 0, 0, []),
  (17, .iload 4, 2, 4, 0, 0, []),
  (19, .iload_n 3, 1, 3, 0, 0, []),
  (20, .if_icmp .ge 37, 3, 0, 0, 0, [31]),
  (23, .iload 4, 2, 4, 0, 0, []),
  (25, .invokestatic 208, 3, 155, 1, 0, []),
  (28, .istore 5, 2, 5, 0, 0, []),
  (30, .iload 5, 2, 5, 0, 0, []),
  (32, .iload_n 2, 1, 2, 0, 0, []),
  (33, .if_icmp .le 18, 3, 0, 0, 0, [29]),
  (36, .aload_n 0, 1, 0, 0, 0, []),
  (37, .iload 4, 2, 4, 0, 0, []),
  (39, .invokevirtual 213, 3, 74, 1, 6, []),
  (42, .ifCond .eq 9, 3, 0, 0, 0, [29]),
  (45, .iload 4, 2, 4, 0, 0, []),
  (47, .istore_n 1, 1, 1, 0, 0, []),
  (48, .iload 5, 2, 5, 0, 0, []),
  (50, .istore_n 2, 1, 2, 0, 0, []),
  (51, .iinc 4 1, 3, 4, 0, 1, []),
  (54, .goto (-37), 3, 0, 0, 0, [12]),
  (57, .iload_n 1, 1, 1, 0, 0, []),
  (58, .ireturn, 1, 0, 0, 0, [])]
theorem gX6_most : jchk 6 cX6_most (some .int) 4 90 kX6_most = true := by decide +kernel
def kX6_clash : List jI := [(0, .iconst 0, 1, 0, 0, 0, []),
  (1, .istore_n 1, 1, 1, 0, 0, []),
  (2, .iload_n 1, 1, 1, 0, 0, []),
  (3, .aload_n 0, 1, 0, 0, 0, []),
  (4, .getfield 19, 3, 6, 1, 0, []),
  (7, .getfield 102, 3, 0, 2, 0, []),
  (10, .if_icmp .ge 50, 3, 0, 0, 0, [33]),
  (13, .iload_n 1, 1, 1, 0, 0, []),
  (14, .iconst 1, 1, 0, 0, 1, []),
  (15, .iadd, 1, 0, 0, 0, []),
  (16, .istore_n 2, 1, 2, 0, 0, []),
  (17, .iload_n 2, 1, 2, 0, 0, []),
  (18, .aload_n 0, 1, 0, 0, 0, []),
  (19, .getfield 19, 3, 6, 1, 0, []),
  (22, .getfield 102, 3, 0, 2, 0, []),
  (25, .if_icmp .ge 29, 3, 0, 0, 0, [31]),
  (28, .aload_n 0, 1, 0, 0, 0, []),
  (29, .aload_n 0, 1, 0, 0, 0, []),
  (30, .getfield 26, 3, 6, 2, 0, []),
  (33, .iload_n 1, 1, 1, 0, 0, []),
  (34, .iload_n 2, 1, 2, 0, 0, []),
  (35, .invokevirtual 216, 3, 73, 3, 6, []),
  (38, .ifCond .ne 10, 3, 0, 0, 0, [29]),
  (41, .bipush 10, 2, 0, 0, 10, []),
  (43, .iload_n 1, 1, 1, 0, 0, []),
  (44, .imul, 1, 0, 0, 0, []),
  (45, .iload_n 2, 1, 2, 0, 0, []),
  (46, .iadd, 1, 0, 0, 0, []),
  (47, .ireturn, 1, 0, 0, 0, []),
  (48, .iinc 2 1, 3, 2, 0, 1, []),
  (51, .goto (-34), 3, 0, 0, 0, [11]),
  (54, .iinc 1 1, 3, 1, 0, 1, []),
  (57, .goto (-55), 3, 0, 0, 0, [2]),
  (60, .iconst (-1), 1, 0, 0, -1, []),
  (61, .ireturn, 1, 0, 0, 0, [])]
theorem gX6_clash : jchk 6 cX6_clash (some .int) 3 66 kX6_clash = true := by decide +kernel
def kX6_forged : List jI := [(0, .iconst 0, 1, 0, 0, 0, []),
  (1, .istore_n 1, 1, 1, 0, 0, []),
  (2, .iconst 0, 1, 0, 0, 0, []),
  (3, .istore_n 2, 1, 2, 0, 0, []),
  (4, .iload_n 2, 1, 2, 0, 0, []),
  (5, .aload_n 0, 1, 0, 0, 0, []),
  (6, .getfield 26, 3, 6, 2, 0, []),
  (9, .getfield 111, 3, 5, 1, 0, []),
  (12, .if_icmp .ge 40, 3, 0, 0, 0, [30]),
  (15, .aload_n 0, 1, 0, 0, 0, []),
  (16, .aload_n 0, 1, 0, 0, 0, []),
  (17, .getfield 26, 3, 6, 2, 0, []),
  (20, .getfield 150, 3, 5, 2, 0, []),
  (23, .iload_n 2, 1, 2, 0, 0, []),
  (24, .iaload, 1, 0, 0, 0, []),
  (25, .aload_n 0, 1, 0, 0, 0, []),
  (26, .getfield 26, 3, 6, 2, 0, []),
  (29, .getfield 153, 3, 5, 3, 0, []),
  (32, .iload_n 2, 1, 2, 0, 0, []),
  (33, .iaload, 1, 0, 0, 0, []),
  (34, .invokevirtual 187, 3, 69, 2, 6, []),
  (37, .ifCond .ne 9, 3, 0, 0, 0, [28]),
  (40, .iload_n 1, 1, 1, 0, 0, []),
  (41, .iconst 1, 1, 0, 0, 1, []),
  (42, .iload_n 2, 1, 2, 0, 0, []),
  (43, .ishl, 1, 0, 0, 0, []),
  (44, .ior, 1, 0, 0, 0, []),
  (45, .istore_n 1, 1, 1, 0, 0, []),
  (46, .iinc 2 1, 3, 2, 0, 1, []),
  (49, .goto (-45), 3, 0, 0, 0, [4]),
  (52, .iload_n 1, 1, 1, 0, 0, []),
  (53, .ireturn, 1, 0, 0, 0, [])]
theorem gX6_forged : jchk 6 cX6_forged (some .int) 3 65 kX6_forged = true := by decide +kernel
def kX6_makers : List jI := [(0, .aload_n 0, 1, 0, 0, 0, []),
  (1, .iload_n 1, 1, 1, 0, 0, []),
  (2, .invokevirtual 147, 3, 62, 1, 6, []),
  (5, .ifCond .ne 6, 3, 0, 0, 0, [6]),
  (8, .ldc 133, 2, 0, 0, -1000000001, []),
  (10, .ireturn, 1, 0, 0, 0, []),
  (11, .aload_n 0, 1, 0, 0, 0, []),
  (12, .aload_n 0, 1, 0, 0, 0, []),
  (13, .getfield 26, 3, 6, 2, 0, []),
  (16, .getfield 150, 3, 5, 2, 0, []),
  (19, .iload_n 1, 1, 1, 0, 0, []),
  (20, .iaload, 1, 0, 0, 0, []),
  (21, .invokevirtual 183, 3, 70, 1, 6, []),
  (24, .iconst 1, 1, 0, 0, 1, []),
  (25, .aload_n 0, 1, 0, 0, 0, []),
  (26, .getfield 26, 3, 6, 2, 0, []),
  (29, .getfield 153, 3, 5, 3, 0, []),
  (32, .iload_n 1, 1, 1, 0, 0, []),
  (33, .iaload, 1, 0, 0, 0, []),
  (34, .ishl, 1, 0, 0, 0, []),
  (35, .iconst (-1), 1, 0, 0, -1, []),
  (36, .ixor, 1, 0, 0, 0, []),
  (37, .iand, 1, 0, 0, 0, []),
  (38, .ireturn, 1, 0, 0, 0, [])]
theorem gX6_makers : jchk 6 cX6_makers (some .int) 4 88 kX6_makers = true := by decide +kernel
def kX6_heir : List jI := [(0, .iload_n 1, 1, 1, 0, 0, []),
  (1, .ifCond .lt 9, 3, 0, 0, 0, [5]),
  (4, .iload_n 1, 1, 1, 0, 0, []),
  (5, .bipush 60, 2, 0, 0, 60, []),
  (7, .if_icmp .le 6, 3, 0, 0, 0, [7]),
  (10, .ldc 65, 2, 0, 0, -1000000002, []),
  (12, .ireturn, 1, 0, 0, 0, []),
  (13, .aload_n 0, 1, 0, 0, 0, []),
  (14, .getfield 30, 3, 6, 3, 0, []),
  (17, .aload_n 0, 1, 0, 0, 0, []),
  (18, .getfield 26, 3, 6, 2, 0, []),
  (21, .invokevirtual 89, 3, 23, 1, 5, []),
  (24, .aload_n 0, 1, 0, 0, 0, []),
  (25, .aload_n 0, 1, 0, 0, 0, []),
  (26, .getfield 30, 3, 6, 3, 0, []),
  (29, .iload_n 1, 1, 1, 0, 0, []),
  (30, .invokevirtual 166, 3, 80, 2, 6, []),
  (33, .iconst (-1), 1, 0, 0, -1, []),
  (34, .istore_n 2, 1, 2, 0, 0, []),
  (35, .bipush 100, 2, 0, 0, 100, []),
  (37, .istore_n 3, 1, 3, 0, 0, []),
  (38, .iconst 0, 1, 0, 0, 0, []),
  (39, .istore 4, 2, 4, 0, 0, []),
  (41, .iload 4, 2, 4, 0, 0, []),
  (43, .aload_n 0, 1, 0, 0, 0, []),
  (44, .getfield 19, 3, 6, 1, 0, []),
  (47, .getfield 102, 3, 0, 2, 0, []),
  (50, .if_icmp .ge 43, 3, 0, 0, 0, [47]),
  (53, .aload_n 0, 1, 0, 0, 0, []),
  (54, .getfield 30, 3, 6, 3, 0, []),
  (57, .getfield 134, 3, 5, 0, 0, []),
  (60, .iload 4, 2, 4, 0, 0, []),
  (62, .iaload, 1, 0, 0, 0, []),
  (63, .aload_n 0, 1, 0, 0, 0, []),
  (64, .getfield 19, 3, 6, 1, 0, []),
  (67, .getfield 108, 3, 0, 1, 0, []),
  (70, .invokestatic 143, 3, 67, 2, 0, []),
  (73, .istore 5, 2, 5, 0, 0, []),
  (75, .iload 5, 2, 5, 0, 0, []),
  (77, .iload_n 3, 1, 3, 0, 0, []),
  (78, .if_icmp .ge 9, 3, 0, 0, 0, [45]),
  (81, .iload 5, 2, 5, 0, 0, []),
  (83, .istore_n 3, 1, 3, 0, 0, []),
  (84, .iload 4, 2, 4, 0, 0, []),
  (86, .istore_n 2, 1, 2, 0, 0, []),
  (87, .iinc 4 1, 3, 4, 0, 1, []),
  (90, .goto (-49), 3, 0, 0, 0, [23]),
  (93, .iload_n 2, 1, 2, 0, 0, []),
  (94, .ireturn, 1, 0, 0, 0, [])]
theorem gX6_heir : jchk 6 cX6_heir (some .int) 3 72 kX6_heir = true := by decide +kernel
def kX6_sham : List jI := [(0, .aload_n 0, 1, 0, 0, 0, []),
  (1, .iload_n 1, 1, 1, 0, 0, []),
  (2, .invokevirtual 129, 3, 61, 1, 6, []),
  (5, .ifCond .ne 6, 3, 0, 0, 0, [6]),
  (8, .ldc 133, 2, 0, 0, -1000000001, []),
  (10, .ireturn, 1, 0, 0, 0, []),
  (11, .bipush 100, 2, 0, 0, 100, []),
  (13, .istore_n 2, 1, 2, 0, 0, []),
  (14, .iconst 0, 1, 0, 0, 0, []),
  (15, .istore_n 3, 1, 3, 0, 0, []),
  (16, .iload_n 3, 1, 3, 0, 0, []),
  (17, .aload_n 0, 1, 0, 0, 0, []),
  (18, .getfield 19, 3, 6, 1, 0, []),
  (21, .getfield 102, 3, 0, 2, 0, []),
  (24, .if_icmp .ge 54, 3, 0, 0, 0, [41]),
  (27, .iload_n 3, 1, 3, 0, 0, []),
  (28, .iload_n 1, 1, 1, 0, 0, []),
  (29, .if_icmp .eq 43, 3, 0, 0, 0, [39]),
  (32, .aload_n 0, 1, 0, 0, 0, []),
  (33, .getfield 26, 3, 6, 2, 0, []),
  (36, .getfield 134, 3, 5, 0, 0, []),
  (39, .iload_n 3, 1, 3, 0, 0, []),
  (40, .iaload, 1, 0, 0, 0, []),
  (41, .aload_n 0, 1, 0, 0, 0, []),
  (42, .getfield 19, 3, 6, 1, 0, []),
  (45, .getfield 108, 3, 0, 1, 0, []),
  (48, .invokestatic 143, 3, 67, 2, 0, []),
  (51, .istore 4, 2, 4, 0, 0, []),
  (53, .iload_n 2, 1, 2, 0, 0, []),
  (54, .iload_n 3, 1, 3, 0, 0, []),
  (55, .iload_n 1, 1, 1, 0, 0, []),
  (56, .if_icmp .ge 10, 3, 0, 0, 0, [36]),
  (59, .iload 4, 2, 4, 0, 0, []),
  (61, .iconst 1, 1, 0, 0, 1, []),
  (62, .isub, 1, 0, 0, 0, []),
  (63, .goto 5, 3, 0, 0, 0, [37]),
  (66, .iload 4, 2, 4, 0, 0, []),
  (68, .invokestatic 220, 3, 0, 0, 1, []),
  (71, .istore_n 2, 1, 2, 0, 0, []),
  (72, .iinc 3 1, 3, 3, 0, 1, []),
  (75, .goto (-59), 3, 0, 0, 0, [10]),
  (78, .iload_n 2, 1, 2, 0, 0, []),
  (79, .ifCond .ge 5, 3, 0, 0, 0, [45]),
  (82, .iconst (-1), 1, 0, 0, -1, []),
  (83, .ireturn, 1, 0, 0, 0, []),
  (84, .iconst 0, 1, 0, 0, 0, []),
  (85, .aload_n 0, 1, 0, 0, 0, []),
  (86, .getfield 26, 3, 6, 2, 0, []),
  (89, .getfield 134, 3, 5, 0, 0, []),
  (92, .iload_n 1, 1, 1, 0, 0, []),
  (93, .iaload, 1, 0, 0, 0, []),
  (94, .aload_n 0, 1, 0, 0, 0, []),
  (95, .getfield 19, 3, 6, 1, 0, []),
  (98, .getfield 108, 3, 0, 1, 0, []),
  (101, .invokestatic 143, 3, 67, 2, 0, []),
  (104, .iload_n 2, 1, 2, 0, 0, []),
  (105, .isub, 1, 0, 0, 0, []),
  (106, .invokestatic 225, 3, 0, 0, 2, []),
  (109, .ireturn, 1, 0, 0, 0, [])]
theorem gX6_sham : jchk 6 cX6_sham (some .int) 2 42 kX6_sham = true := by decide +kernel
def kX6_love : List jI := [(0, .iconst 0, 1, 0, 0, 0, []),
  (1, .istore_n 2, 1, 2, 0, 0, []),
  (2, .iconst 0, 1, 0, 0, 0, []),
  (3, .istore_n 3, 1, 3, 0, 0, []),
  (4, .iload_n 3, 1, 3, 0, 0, []),
  (5, .aload_n 0, 1, 0, 0, 0, []),
  (6, .getfield 19, 3, 6, 1, 0, []),
  (9, .getfield 102, 3, 0, 2, 0, []),
  (12, .if_icmp .ge 48, 3, 0, 0, 0, [33]),
  (15, .aload_n 0, 1, 0, 0, 0, []),
  (16, .iload_n 3, 1, 3, 0, 0, []),
  (17, .invokevirtual 205, 3, 75, 1, 6, []),
  (20, .istore 4, 2, 4, 0, 0, []),
  (22, .iload 4, 2, 4, 0, 0, []),
  (24, .iload_n 3, 1, 3, 0, 0, []),
  (25, .if_icmp .le 29, 3, 0, 0, 0, [31]),
  (28, .aload_n 0, 1, 0, 0, 0, []),
  (29, .iload 4, 2, 4, 0, 0, []),
  (31, .invokevirtual 205, 3, 75, 1, 6, []),
  (34, .iload_n 3, 1, 3, 0, 0, []),
  (35, .if_icmp .ne 19, 3, 0, 0, 0, [31]),
  (38, .iload_n 2, 1, 2, 0, 0, []),
  (39, .iload_n 1, 1, 1, 0, 0, []),
  (40, .if_icmp .ne 11, 3, 0, 0, 0, [30]),
  (43, .bipush 10, 2, 0, 0, 10, []),
  (45, .iload_n 3, 1, 3, 0, 0, []),
  (46, .imul, 1, 0, 0, 0, []),
  (47, .iload 4, 2, 4, 0, 0, []),
  (49, .iadd, 1, 0, 0, 0, []),
  (50, .ireturn, 1, 0, 0, 0, []),
  (51, .iinc 2 1, 3, 2, 0, 1, []),
  (54, .iinc 3 1, 3, 3, 0, 1, []),
  (57, .goto (-53), 3, 0, 0, 0, [4]),
  (60, .iload_n 1, 1, 1, 0, 0, []),
  (61, .iconst (-1), 1, 0, 0, -1, []),
  (62, .if_icmp .ne 7, 3, 0, 0, 0, [38]),
  (65, .iload_n 2, 1, 2, 0, 0, []),
  (66, .goto 4, 3, 0, 0, 0, [39]),
  (69, .iconst (-1), 1, 0, 0, -1, []),
  (70, .ireturn, 1, 0, 0, 0, [])]
theorem gX6_love : jchk 6 cX6_love (some .int) 3 67 kX6_love = true := by decide +kernel
def kX6_vote : List jI := [(0, .iload_n 1, 1, 1, 0, 0, []),
  (1, .invokestatic 170, 3, 65, 1, 0, []),
  (4, .ifCond .eq 11, 3, 0, 0, 0, [7]),
  (7, .aload_n 0, 1, 0, 0, 0, []),
  (8, .iload_n 1, 1, 1, 0, 0, []),
  (9, .invokevirtual 228, 3, 78, 1, 6, []),
  (12, .goto 5, 3, 0, 0, 0, [8]),
  (15, .ldc 65, 2, 0, 0, -1000000002, []),
  (17, .ireturn, 1, 0, 0, 0, [])]
theorem gX6_vote : jchk 6 cX6_vote (some .int) 3 67 kX6_vote = true := by decide +kernel
def kX6_turned : List jI := [(0, .aload_n 0, 1, 0, 0, 0, []),
  (1, .iload_n 2, 1, 2, 0, 0, []),
  (2, .invokevirtual 156, 3, 63, 1, 6, []),
  (5, .ifCond .ne 6, 3, 0, 0, 0, [6]),
  (8, .ldc 133, 2, 0, 0, -1000000001, []),
  (10, .ireturn, 1, 0, 0, 0, []),
  (11, .iload_n 1, 1, 1, 0, 0, []),
  (12, .invokestatic 170, 3, 65, 1, 0, []),
  (15, .ifCond .ne 6, 3, 0, 0, 0, [11]),
  (18, .ldc 65, 2, 0, 0, -1000000002, []),
  (20, .ireturn, 1, 0, 0, 0, []),
  (21, .bipush 100, 2, 0, 0, 100, []),
  (23, .istore_n 3, 1, 3, 0, 0, []),
  (24, .iconst 0, 1, 0, 0, 0, []),
  (25, .istore 4, 2, 4, 0, 0, []),
  (27, .iload 4, 2, 4, 0, 0, []),
  (29, .sipush 1000, 3, 0, 0, 1000, []),
  (32, .if_icmp .ge 36, 3, 0, 0, 0, [34]),
  (35, .iload_n 1, 1, 1, 0, 0, []),
  (36, .iload 4, 2, 4, 0, 0, []),
  (38, .invokestatic 143, 3, 67, 2, 0, []),
  (41, .istore 5, 2, 5, 0, 0, []),
  (43, .iload 5, 2, 5, 0, 0, []),
  (45, .iload_n 3, 1, 3, 0, 0, []),
  (46, .if_icmp .ge 16, 3, 0, 0, 0, [32]),
  (49, .aload_n 0, 1, 0, 0, 0, []),
  (50, .iload 4, 2, 4, 0, 0, []),
  (52, .invokevirtual 228, 3, 78, 1, 6, []),
  (55, .iload_n 2, 1, 2, 0, 0, []),
  (56, .if_icmp .ne 6, 3, 0, 0, 0, [32]),
  (59, .iload 5, 2, 5, 0, 0, []),
  (61, .istore_n 3, 1, 3, 0, 0, []),
  (62, .iinc 4 1, 3, 4, 0, 1, []),
  (65, .goto (-38), 3, 0, 0, 0, [15]),
  (68, .iload_n 3, 1, 3, 0, 0, []),
  (69, .bipush 100, 2, 0, 0, 100, []),
  (71, .if_icmp .ne 7, 3, 0, 0, 0, [39]),
  (74, .iconst (-1), 1, 0, 0, -1, []),
  (75, .goto 4, 3, 0, 0, 0, [40]),
  (78, .iload_n 3, 1, 3, 0, 0, []),
  (79, .ireturn, 1, 0, 0, 0, [])]
theorem gX6_turned : jchk 6 cX6_turned (some .int) 3 67 kX6_turned = true := by decide +kernel
def kX6_one : List jI := [(0, .aload_n 0, 1, 0, 0, 0, []),
  (1, .iload_n 1, 1, 1, 0, 0, []),
  (2, .invokevirtual 129, 3, 61, 1, 6, []),
  (5, .ifCond .eq 16, 3, 0, 0, 0, [11]),
  (8, .aload_n 0, 1, 0, 0, 0, []),
  (9, .iload_n 2, 1, 2, 0, 0, []),
  (10, .invokevirtual 129, 3, 61, 1, 6, []),
  (13, .ifCond .eq 8, 3, 0, 0, 0, [11]),
  (16, .iload_n 1, 1, 1, 0, 0, []),
  (17, .iload_n 2, 1, 2, 0, 0, []),
  (18, .if_icmp .ne 6, 3, 0, 0, 0, [13]),
  (21, .ldc 133, 2, 0, 0, -1000000001, []),
  (23, .ireturn, 1, 0, 0, 0, []),
  (24, .aload_n 0, 1, 0, 0, 0, []),
  (25, .getfield 30, 3, 6, 3, 0, []),
  (28, .aload_n 0, 1, 0, 0, 0, []),
  (29, .getfield 26, 3, 6, 2, 0, []),
  (32, .invokevirtual 89, 3, 23, 1, 5, []),
  (35, .iconst 0, 1, 0, 0, 0, []),
  (36, .istore_n 3, 1, 3, 0, 0, []),
  (37, .iload_n 3, 1, 3, 0, 0, []),
  (38, .bipush 60, 2, 0, 0, 60, []),
  (40, .if_icmp .gt 33, 3, 0, 0, 0, [39]),
  (43, .aload_n 0, 1, 0, 0, 0, []),
  (44, .aload_n 0, 1, 0, 0, 0, []),
  (45, .getfield 30, 3, 6, 3, 0, []),
  (48, .iload_n 1, 1, 1, 0, 0, []),
  (49, .iload_n 2, 1, 2, 0, 0, []),
  (50, .invokevirtual 216, 3, 73, 3, 6, []),
  (53, .ifCond .ne 5, 3, 0, 0, 0, [32]),
  (56, .iload_n 3, 1, 3, 0, 0, []),
  (57, .ireturn, 1, 0, 0, 0, []),
  (58, .aload_n 0, 1, 0, 0, 0, []),
  (59, .aload_n 0, 1, 0, 0, 0, []),
  (60, .getfield 30, 3, 6, 3, 0, []),
  (63, .iconst 1, 1, 0, 0, 1, []),
  (64, .invokevirtual 166, 3, 80, 2, 6, []),
  (67, .iinc 3 1, 3, 3, 0, 1, []),
  (70, .goto (-33), 3, 0, 0, 0, [20]),
  (73, .iconst (-1), 1, 0, 0, -1, []),
  (74, .ireturn, 1, 0, 0, 0, [])]
theorem gX6_one : jchk 6 cX6_one (some .int) 3 72 kX6_one = true := by decide +kernel
def kX6_see : List jI := [(0, .iload_n 1, 1, 1, 0, 0, []),
  (1, .invokestatic 170, 3, 65, 1, 0, []),
  (4, .ifCond .ne 6, 3, 0, 0, 0, [5]),
  (7, .ldc 65, 2, 0, 0, -1000000002, []),
  (9, .ireturn, 1, 0, 0, 0, []),
  (10, .aload_n 0, 1, 0, 0, 0, []),
  (11, .getfield 50, 3, 6, 6, 0, []),
  (14, .getfield 120, 3, 3, 0, 0, []),
  (17, .bipush 8, 2, 0, 0, 8, []),
  (19, .if_icmp .lt 6, 3, 0, 0, 0, [12]),
  (22, .ldc 69, 2, 0, 0, -1000000004, []),
  (24, .ireturn, 1, 0, 0, 0, []),
  (25, .aload_n 0, 1, 0, 0, 0, []),
  (26, .getfield 50, 3, 6, 6, 0, []),
  (29, .iload_n 1, 1, 1, 0, 0, []),
  (30, .invokevirtual 231, 3, 5, 1, 3, []),
  (33, .aload_n 0, 1, 0, 0, 0, []),
  (34, .getfield 50, 3, 6, 6, 0, []),
  (37, .getfield 120, 3, 3, 0, 0, []),
  (40, .ireturn, 1, 0, 0, 0, [])]
theorem gX6_see : jchk 6 cX6_see (some .int) 1 21 kX6_see = true := by decide +kernel
def kX6_madeBy : List jI := [(0, .iconst 1, 1, 0, 0, 1, []),
  (1, .aload_n 0, 1, 0, 0, 0, []),
  (2, .getfield 19, 3, 6, 1, 0, []),
  (5, .getfield 102, 3, 0, 2, 0, []),
  (8, .ishl, 1, 0, 0, 0, []),
  (9, .iconst 1, 1, 0, 0, 1, []),
  (10, .isub, 1, 0, 0, 0, []),
  (11, .istore_n 1, 1, 1, 0, 0, []),
  (12, .iconst 0, 1, 0, 0, 0, []),
  (13, .istore_n 2, 1, 2, 0, 0, []),
  (14, .iload_n 2, 1, 2, 0, 0, []),
  (15, .aload_n 0, 1, 0, 0, 0, []),
  (16, .getfield 50, 3, 6, 6, 0, []),
  (19, .getfield 120, 3, 3, 0, 0, []),
  (22, .if_icmp .ge 25, 3, 0, 0, 0, [27]),
  (25, .iload_n 1, 1, 1, 0, 0, []),
  (26, .aload_n 0, 1, 0, 0, 0, []),
  (27, .aload_n 0, 1, 0, 0, 0, []),
  (28, .getfield 50, 3, 6, 6, 0, []),
  (31, .getfield 234, 3, 3, 1, 0, []),
  (34, .iload_n 2, 1, 2, 0, 0, []),
  (35, .iaload, 1, 0, 0, 0, []),
  (36, .invokevirtual 183, 3, 70, 1, 6, []),
  (39, .iand, 1, 0, 0, 0, []),
  (40, .istore_n 1, 1, 1, 0, 0, []),
  (41, .iinc 2 1, 3, 2, 0, 1, []),
  (44, .goto (-30), 3, 0, 0, 0, [10]),
  (47, .iload_n 1, 1, 1, 0, 0, []),
  (48, .ireturn, 1, 0, 0, 0, [])]
theorem gX6_madeBy : jchk 6 cX6_madeBy (some .int) 4 88 kX6_madeBy = true := by decide +kernel
def kX6_lookAt : List jI := [(0, .aload_n 0, 1, 0, 0, 0, []),
  (1, .invokevirtual 237, 3, 53, 0, 6, []),
  (4, .istore_n 1, 1, 1, 0, 0, []),
  (5, .iconst (-1), 1, 0, 0, -1, []),
  (6, .istore_n 2, 1, 2, 0, 0, []),
  (7, .iload_n 1, 1, 1, 0, 0, []),
  (8, .invokestatic 208, 3, 155, 1, 0, []),
  (11, .istore_n 3, 1, 3, 0, 0, []),
  (12, .iconst 0, 1, 0, 0, 0, []),
  (13, .istore 4, 2, 4, 0, 0, []),
  (15, .iload 4, 2, 4, 0, 0, []),
  (17, .iconst 3, 1, 0, 0, 3, []),
  (18, .if_icmp .ge 30, 3, 0, 0, 0, [27]),
  (21, .aload_n 0, 1, 0, 0, 0, []),
  (22, .iload_n 1, 1, 1, 0, 0, []),
  (23, .iload 4, 2, 4, 0, 0, []),
  (25, .invokevirtual 240, 3, 79, 2, 6, []),
  (28, .istore 5, 2, 5, 0, 0, []),
  (30, .iload 5, 2, 5, 0, 0, []),
  (32, .iload_n 3, 1, 3, 0, 0, []),
  (33, .if_icmp .ge 9, 3, 0, 0, 0, [25]),
  (36, .iload 5, 2, 5, 0, 0, []),
  (38, .istore_n 3, 1, 3, 0, 0, []),
  (39, .iload 4, 2, 4, 0, 0, []),
  (41, .istore_n 2, 1, 2, 0, 0, []),
  (42, .iinc 4 1, 3, 4, 0, 1, []),
  (45, .goto (-30), 3, 0, 0, 0, [10]),
  (48, .iload_n 2, 1, 2, 0, 0, []),
  (49, .ireturn, 1, 0, 0, 0, [])]
theorem gX6_lookAt : jchk 6 cX6_lookAt (some .int) 5 110 kX6_lookAt = true := by decide +kernel
def kX6_write : List jI := [(0, .aload_n 0, 1, 0, 0, 0, []),
  (1, .iload_n 1, 1, 1, 0, 0, []),
  (2, .invokevirtual 129, 3, 61, 1, 6, []),
  (5, .ifCond .ne 6, 3, 0, 0, 0, [6]),
  (8, .ldc 133, 2, 0, 0, -1000000001, []),
  (10, .ireturn, 1, 0, 0, 0, []),
  (11, .iload_n 2, 1, 2, 0, 0, []),
  (12, .invokestatic 170, 3, 65, 1, 0, []),
  (15, .ifCond .ne 6, 3, 0, 0, 0, [11]),
  (18, .ldc 65, 2, 0, 0, -1000000002, []),
  (20, .ireturn, 1, 0, 0, 0, []),
  (21, .aload_n 0, 1, 0, 0, 0, []),
  (22, .getfield 50, 3, 6, 6, 0, []),
  (25, .getfield 123, 3, 3, 2, 0, []),
  (28, .bipush 15, 2, 0, 0, 15, []),
  (30, .if_icmp .lt 6, 3, 0, 0, 0, [18]),
  (33, .ldc 69, 2, 0, 0, -1000000004, []),
  (35, .ireturn, 1, 0, 0, 0, []),
  (36, .aload_n 0, 1, 0, 0, 0, []),
  (37, .getfield 50, 3, 6, 6, 0, []),
  (40, .iload_n 1, 1, 1, 0, 0, []),
  (41, .iload_n 2, 1, 2, 0, 0, []),
  (42, .invokevirtual 243, 3, 6, 2, 3, []),
  (45, .aload_n 0, 1, 0, 0, 0, []),
  (46, .getfield 50, 3, 6, 6, 0, []),
  (49, .getfield 123, 3, 3, 2, 0, []),
  (52, .ireturn, 1, 0, 0, 0, [])]
theorem gX6_write : jchk 6 cX6_write (some .int) 1 22 kX6_write = true := by decide +kernel
def kX6_tear : List jI := [(0, .aload_n 0, 1, 0, 0, 0, []),
  (1, .getfield 50, 3, 6, 6, 0, []),
  (4, .getfield 120, 3, 3, 0, 0, []),
  (7, .aload_n 0, 1, 0, 0, 0, []),
  (8, .getfield 50, 3, 6, 6, 0, []),
  (11, .getfield 123, 3, 3, 2, 0, []),
  (14, .iadd, 1, 0, 0, 0, []),
  (15, .istore_n 1, 1, 1, 0, 0, []),
  (16, .aload_n 0, 1, 0, 0, 0, []),
  (17, .getfield 50, 3, 6, 6, 0, []),
  (20, .invokevirtual 92, 3, 7, 0, 3, []),
  (23, .iload_n 1, 1, 1, 0, 0, []),
  (24, .ireturn, 1, 0, 0, 0, [])]
theorem gX6_tear : jchk 6 cX6_tear (some .int) 1 20 kX6_tear = true := by decide +kernel
def kX6_judge : List jI := [(0, .iconst 0, 1, 0, 0, 0, []),
  (1, .istore_n 1, 1, 1, 0, 0, []),
  (2, .iload_n 1, 1, 1, 0, 0, []),
  (3, .aload_n 0, 1, 0, 0, 0, []),
  (4, .getfield 50, 3, 6, 6, 0, []),
  (7, .getfield 123, 3, 3, 2, 0, []),
  (10, .if_icmp .ge 50, 3, 0, 0, 0, [32]),
  (13, .aload_n 0, 1, 0, 0, 0, []),
  (14, .getfield 50, 3, 6, 6, 0, []),
  (17, .getfield 246, 3, 3, 3, 0, []),
  (20, .iload_n 1, 1, 1, 0, 0, []),
  (21, .iaload, 1, 0, 0, 0, []),
  (22, .istore_n 2, 1, 2, 0, 0, []),
  (23, .aload_n 0, 1, 0, 0, 0, []),
  (24, .iload_n 2, 1, 2, 0, 0, []),
  (25, .invokevirtual 129, 3, 61, 1, 6, []),
  (28, .ifCond .eq 26, 3, 0, 0, 0, [30]),
  (31, .aload_n 0, 1, 0, 0, 0, []),
  (32, .getfield 26, 3, 6, 2, 0, []),
  (35, .getfield 134, 3, 5, 0, 0, []),
  (38, .iload_n 2, 1, 2, 0, 0, []),
  (39, .iaload, 1, 0, 0, 0, []),
  (40, .aload_n 0, 1, 0, 0, 0, []),
  (41, .getfield 50, 3, 6, 6, 0, []),
  (44, .getfield 249, 3, 3, 4, 0, []),
  (47, .iload_n 1, 1, 1, 0, 0, []),
  (48, .iaload, 1, 0, 0, 0, []),
  (49, .if_icmp .eq 5, 3, 0, 0, 0, [30]),
  (52, .iload_n 1, 1, 1, 0, 0, []),
  (53, .ireturn, 1, 0, 0, 0, []),
  (54, .iinc 1 1, 3, 1, 0, 1, []),
  (57, .goto (-55), 3, 0, 0, 0, [2]),
  (60, .iconst (-1), 1, 0, 0, -1, []),
  (61, .ireturn, 1, 0, 0, 0, [])]
theorem gX6_judge : jchk 6 cX6_judge (some .int) 1 21 kX6_judge = true := by decide +kernel
def kX6_seed : List jI := [(0, .iload_n 1, 1, 1, 0, 0, []),
  (1, .ifCond .ge 6, 3, 0, 0, 0, [4]),
  (4, .ldc 65, 2, 0, 0, -1000000002, []),
  (6, .ireturn, 1, 0, 0, 0, []),
  (7, .aload_n 0, 1, 0, 0, 0, []),
  (8, .getfield 58, 3, 6, 8, 0, []),
  (11, .istore_n 2, 1, 2, 0, 0, []),
  (12, .aload_n 0, 1, 0, 0, 0, []),
  (13, .iload_n 1, 1, 1, 0, 0, []),
  (14, .putfield 58, 3, 6, 8, 0, []),
  (17, .iload_n 2, 1, 2, 0, 0, []),
  (18, .ireturn, 1, 0, 0, 0, [])]
theorem gX6_seed : jchk 6 cX6_seed (some .int) 0 0 kX6_seed = true := by decide +kernel
def kX6_keep : List jI := [(0, .iload_n 1, 1, 1, 0, 0, []),
  (1, .invokestatic 252, 3, 64, 1, 0, []),
  (4, .ifCond .ne 6, 3, 0, 0, 0, [5]),
  (7, .ldc 133, 2, 0, 0, -1000000001, []),
  (9, .ireturn, 1, 0, 0, 0, []),
  (10, .aload_n 0, 1, 0, 0, 0, []),
  (11, .getfield 42, 3, 6, 5, 0, []),
  (14, .iload_n 1, 1, 1, 0, 0, []),
  (15, .aaload, 1, 10, 0, 0, []),
  (16, .iconst 1, 1, 0, 0, 1, []),
  (17, .putfield 98, 3, 2, 0, 1, []),
  (20, .aload_n 0, 1, 0, 0, 0, []),
  (21, .getfield 42, 3, 6, 5, 0, []),
  (24, .iload_n 1, 1, 1, 0, 0, []),
  (25, .aaload, 1, 10, 0, 0, []),
  (26, .getfield 255, 3, 2, 1, 0, []),
  (29, .aload_n 0, 1, 0, 0, 0, []),
  (30, .getfield 26, 3, 6, 2, 0, []),
  (33, .invokevirtual 89, 3, 23, 1, 5, []),
  (36, .aload_n 0, 1, 0, 0, 0, []),
  (37, .getfield 42, 3, 6, 5, 0, []),
  (40, .iload_n 1, 1, 1, 0, 0, []),
  (41, .aaload, 1, 10, 0, 0, []),
  (42, .aload_n 0, 1, 0, 0, 0, []),
  (43, .getfield 58, 3, 6, 8, 0, []),
  (46, .putfield 258, 3, 2, 2, 0, []),
  (49, .aload_n 0, 1, 0, 0, 0, []),
  (50, .getfield 36, 3, 6, 4, 0, []),
  (53, .invokevirtual 95, 3, 4, 0, 1, []),
  (56, .iconst 1, 1, 0, 0, 1, []),
  (57, .ireturn, 1, 0, 0, 0, [])]
theorem gX6_keep : jchk 6 cX6_keep (some .int) 2 47 kX6_keep = true := by decide +kernel
end
section
/-! THE CODE of the methods, with what each instruction needs; checked against the bytes -/
def kX6_goBack : List jI := [(0, .iload_n 1, 1, 1, 0, 0, []),
  (1, .invokestatic 252, 3, 64, 1, 0, []),
  (4, .ifCond .ne 6, 3, 0, 0, 0, [5]),
  (7, .ldc 133, 2, 0, 0, -1000000001, []),
  (9, .ireturn, 1, 0, 0, 0, []),
  (10, .aload_n 0, 1, 0, 0, 0, []),
  (11, .getfield 42, 3, 6, 5, 0, []),
  (14, .iload_n 1, 1, 1, 0, 0, []),
  (15, .aaload, 1, 10, 0, 0, []),
  (16, .getfield 98, 3, 2, 0, 0, []),
  (19, .ifCond .ne 6, 3, 0, 0, 0, [13]),
  (22, .ldc 162, 2, 0, 0, -1000000003, []),
  (24, .ireturn, 1, 0, 0, 0, []),
  (25, .aload_n 0, 1, 0, 0, 0, []),
  (26, .getfield 26, 3, 6, 2, 0, []),
  (29, .aload_n 0, 1, 0, 0, 0, []),
  (30, .getfield 42, 3, 6, 5, 0, []),
  (33, .iload_n 1, 1, 1, 0, 0, []),
  (34, .aaload, 1, 10, 0, 0, []),
  (35, .getfield 255, 3, 2, 1, 0, []),
  (38, .invokevirtual 89, 3, 23, 1, 5, []),
  (41, .aload_n 0, 1, 0, 0, 0, []),
  (42, .aload_n 0, 1, 0, 0, 0, []),
  (43, .getfield 42, 3, 6, 5, 0, []),
  (46, .iload_n 1, 1, 1, 0, 0, []),
  (47, .aaload, 1, 10, 0, 0, []),
  (48, .getfield 258, 3, 2, 2, 0, []),
  (51, .putfield 58, 3, 6, 8, 0, []),
  (54, .aload_n 0, 1, 0, 0, 0, []),
  (55, .getfield 36, 3, 6, 4, 0, []),
  (58, .invokevirtual 95, 3, 4, 0, 1, []),
  (61, .iconst 1, 1, 0, 0, 1, []),
  (62, .ireturn, 1, 0, 0, 0, [])]
theorem gX6_goBack : jchk 6 cX6_goBack (some .int) 2 47 kX6_goBack = true := by decide +kernel
def kX6_isPerson : List jI := [(0, .iload_n 1, 1, 1, 0, 0, []),
  (1, .ifCond .lt 18, 3, 0, 0, 0, [9]),
  (4, .iload_n 1, 1, 1, 0, 0, []),
  (5, .aload_n 0, 1, 0, 0, 0, []),
  (6, .getfield 19, 3, 6, 1, 0, []),
  (9, .getfield 102, 3, 0, 2, 0, []),
  (12, .if_icmp .ge 7, 3, 0, 0, 0, [9]),
  (15, .iconst 1, 1, 0, 0, 1, []),
  (16, .goto 4, 3, 0, 0, 0, [10]),
  (19, .iconst 0, 1, 0, 0, 0, []),
  (20, .ireturn, 1, 0, 0, 1, [])]
theorem gX6_isPerson : jchk 6 cX6_isPerson (some .boolean) 0 0 kX6_isPerson = true := by decide +kernel
def kX6_isPaper : List jI := [(0, .iload_n 1, 1, 1, 0, 0, []),
  (1, .ifCond .lt 18, 3, 0, 0, 0, [9]),
  (4, .iload_n 1, 1, 1, 0, 0, []),
  (5, .aload_n 0, 1, 0, 0, 0, []),
  (6, .getfield 26, 3, 6, 2, 0, []),
  (9, .getfield 111, 3, 5, 1, 0, []),
  (12, .if_icmp .ge 7, 3, 0, 0, 0, [9]),
  (15, .iconst 1, 1, 0, 0, 1, []),
  (16, .goto 4, 3, 0, 0, 0, [10]),
  (19, .iconst 0, 1, 0, 0, 0, []),
  (20, .ireturn, 1, 0, 0, 1, [])]
theorem gX6_isPaper : jchk 6 cX6_isPaper (some .boolean) 0 0 kX6_isPaper = true := by decide +kernel
def kX6_isCandidate : List jI := [(0, .iload_n 1, 1, 1, 0, 0, []),
  (1, .ifCond .lt 18, 3, 0, 0, 0, [9]),
  (4, .iload_n 1, 1, 1, 0, 0, []),
  (5, .aload_n 0, 1, 0, 0, 0, []),
  (6, .getfield 19, 3, 6, 1, 0, []),
  (9, .getfield 114, 3, 0, 5, 0, []),
  (12, .if_icmp .ge 7, 3, 0, 0, 0, [9]),
  (15, .iconst 1, 1, 0, 0, 1, []),
  (16, .goto 4, 3, 0, 0, 0, [10]),
  (19, .iconst 0, 1, 0, 0, 0, []),
  (20, .ireturn, 1, 0, 0, 1, [])]
theorem gX6_isCandidate : jchk 6 cX6_isCandidate (some .boolean) 0 0 kX6_isCandidate = true := by decide +kernel
def kX6_isImage : List jI := [(0, .iload_n 0, 1, 0, 0, 0, []),
  (1, .ifCond .lt 12, 3, 0, 0, 0, [7]),
  (4, .iload_n 0, 1, 0, 0, 0, []),
  (5, .iconst 2, 1, 0, 0, 2, []),
  (6, .if_icmp .ge 7, 3, 0, 0, 0, [7]),
  (9, .iconst 1, 1, 0, 0, 1, []),
  (10, .goto 4, 3, 0, 0, 0, [8]),
  (13, .iconst 0, 1, 0, 0, 0, []),
  (14, .ireturn, 1, 0, 0, 1, [])]
theorem gX6_isImage : jchk 6 cX6_isImage (some .boolean) 0 0 kX6_isImage = true := by decide +kernel
def kX6_isMark : List jI := [(0, .iload_n 0, 1, 0, 0, 0, []),
  (1, .ifCond .lt 14, 3, 0, 0, 0, [7]),
  (4, .iload_n 0, 1, 0, 0, 0, []),
  (5, .sipush 1000, 3, 0, 0, 1000, []),
  (8, .if_icmp .ge 7, 3, 0, 0, 0, [7]),
  (11, .iconst 1, 1, 0, 0, 1, []),
  (12, .goto 4, 3, 0, 0, 0, [8]),
  (15, .iconst 0, 1, 0, 0, 0, []),
  (16, .ireturn, 1, 0, 0, 1, [])]
theorem gX6_isMark : jchk 6 cX6_isMark (some .boolean) 0 0 kX6_isMark = true := by decide +kernel
def kX6_part : List jI := [(0, .iload_n 1, 1, 1, 0, 0, []),
  (1, .lookupswitch 40 #[(0, 27), (1, 32)], 27, 0, 0, 0, [12, 2, 6]),
  (28, .iload_n 0, 1, 0, 0, 0, []),
  (29, .bipush 100, 2, 0, 0, 100, []),
  (31, .idiv, 1, 0, 0, 0, []),
  (32, .ireturn, 1, 0, 0, 0, []),
  (33, .iload_n 0, 1, 0, 0, 0, []),
  (34, .bipush 10, 2, 0, 0, 10, []),
  (36, .idiv, 1, 0, 0, 0, []),
  (37, .bipush 10, 2, 0, 0, 10, []),
  (39, .irem, 1, 0, 0, 0, []),
  (40, .ireturn, 1, 0, 0, 0, []),
  (41, .iload_n 0, 1, 0, 0, 0, []),
  (42, .bipush 10, 2, 0, 0, 10, []),
  (44, .irem, 1, 0, 0, 0, []),
  (45, .ireturn, 1, 0, 0, 0, [])]
theorem gX6_part : jchk 6 cX6_part (some .int) 0 0 kX6_part = true := by decide +kernel
def kX6_apart : List jI := [(0, .iload_n 0, 1, 0, 0, 0, []),
  (1, .bipush 100, 2, 0, 0, 100, []),
  (3, .idiv, 1, 0, 0, 0, []),
  (4, .iload_n 1, 1, 1, 0, 0, []),
  (5, .bipush 100, 2, 0, 0, 100, []),
  (7, .idiv, 1, 0, 0, 0, []),
  (8, .isub, 1, 0, 0, 0, []),
  (9, .invokestatic 261, 3, 0, 0, 3, []),
  (12, .iload_n 0, 1, 0, 0, 0, []),
  (13, .bipush 10, 2, 0, 0, 10, []),
  (15, .idiv, 1, 0, 0, 0, []),
  (16, .bipush 10, 2, 0, 0, 10, []),
  (18, .irem, 1, 0, 0, 0, []),
  (19, .iload_n 1, 1, 1, 0, 0, []),
  (20, .bipush 10, 2, 0, 0, 10, []),
  (22, .idiv, 1, 0, 0, 0, []),
  (23, .bipush 10, 2, 0, 0, 10, []),
  (25, .irem, 1, 0, 0, 0, []),
  (26, .isub, 1, 0, 0, 0, []),
  (27, .invokestatic 261, 3, 0, 0, 3, []),
  (30, .iadd, 1, 0, 0, 0, []),
  (31, .iload_n 0, 1, 0, 0, 0, []),
  (32, .bipush 10, 2, 0, 0, 10, []),
  (34, .irem, 1, 0, 0, 0, []),
  (35, .iload_n 1, 1, 1, 0, 0, []),
  (36, .bipush 10, 2, 0, 0, 10, []),
  (38, .irem, 1, 0, 0, 0, []),
  (39, .isub, 1, 0, 0, 0, []),
  (40, .invokestatic 261, 3, 0, 0, 3, []),
  (43, .iadd, 1, 0, 0, 0, []),
  (44, .ireturn, 1, 0, 0, 0, [])]
theorem gX6_apart : jchk 6 cX6_apart (some .int) 1 21 kX6_apart = true := by decide +kernel
def kX6_within : List jI := [(0, .iload_n 0, 1, 0, 0, 0, []),
  (1, .bipush 100, 2, 0, 0, 100, []),
  (3, .idiv, 1, 0, 0, 0, []),
  (4, .iload_n 1, 1, 1, 0, 0, []),
  (5, .bipush 100, 2, 0, 0, 100, []),
  (7, .idiv, 1, 0, 0, 0, []),
  (8, .isub, 1, 0, 0, 0, []),
  (9, .invokestatic 261, 3, 0, 0, 3, []),
  (12, .iload_n 2, 1, 2, 0, 0, []),
  (13, .if_icmp .gt 45, 3, 0, 0, 0, [36]),
  (16, .iload_n 0, 1, 0, 0, 0, []),
  (17, .bipush 10, 2, 0, 0, 10, []),
  (19, .idiv, 1, 0, 0, 0, []),
  (20, .bipush 10, 2, 0, 0, 10, []),
  (22, .irem, 1, 0, 0, 0, []),
  (23, .iload_n 1, 1, 1, 0, 0, []),
  (24, .bipush 10, 2, 0, 0, 10, []),
  (26, .idiv, 1, 0, 0, 0, []),
  (27, .bipush 10, 2, 0, 0, 10, []),
  (29, .irem, 1, 0, 0, 0, []),
  (30, .isub, 1, 0, 0, 0, []),
  (31, .invokestatic 261, 3, 0, 0, 3, []),
  (34, .iload_n 2, 1, 2, 0, 0, []),
  (35, .if_icmp .gt 23, 3, 0, 0, 0, [36]),
  (38, .iload_n 0, 1, 0, 0, 0, []),
  (39, .bipush 10, 2, 0, 0, 10, []),
  (41, .irem, 1, 0, 0, 0, []),
  (42, .iload_n 1, 1, 1, 0, 0, []),
  (43, .bipush 10, 2, 0, 0, 10, []),
  (45, .irem, 1, 0, 0, 0, []),
  (46, .isub, 1, 0, 0, 0, []),
  (47, .invokestatic 261, 3, 0, 0, 3, []),
  (50, .iload_n 2, 1, 2, 0, 0, []),
  (51, .if_icmp .gt 7, 3, 0, 0, 0, [36]),
  (54, .iconst 1, 1, 0, 0, 1, []),
  (55, .goto 4, 3, 0, 0, 0, [37]),
  (58, .iconst 0, 1, 0, 0, 0, []),
  (59, .ireturn, 1, 0, 0, 1, [])]
theorem gX6_within : jchk 6 cX6_within (some .boolean) 1 21 kX6_within = true := by decide +kernel
def kX6_passes : List jI := [(0, .aload_n 0, 1, 0, 0, 0, []),
  (1, .iload_n 2, 1, 2, 0, 0, []),
  (2, .invokevirtual 129, 3, 61, 1, 6, []),
  (5, .ifCond .eq 32, 3, 0, 0, 0, [19]),
  (8, .iload_n 1, 1, 1, 0, 0, []),
  (9, .aload_n 0, 1, 0, 0, 0, []),
  (10, .getfield 26, 3, 6, 2, 0, []),
  (13, .getfield 134, 3, 5, 0, 0, []),
  (16, .iload_n 2, 1, 2, 0, 0, []),
  (17, .iaload, 1, 0, 0, 0, []),
  (18, .aload_n 0, 1, 0, 0, 0, []),
  (19, .getfield 19, 3, 6, 1, 0, []),
  (22, .getfield 137, 3, 0, 3, 0, []),
  (25, .iload_n 2, 1, 2, 0, 0, []),
  (26, .iaload, 1, 0, 0, 0, []),
  (27, .invokestatic 264, 3, 68, 3, 0, []),
  (30, .ifCond .eq 7, 3, 0, 0, 0, [19]),
  (33, .iconst 1, 1, 0, 0, 1, []),
  (34, .goto 4, 3, 0, 0, 0, [20]),
  (37, .iconst 0, 1, 0, 0, 0, []),
  (38, .ireturn, 1, 0, 0, 1, [])]
theorem gX6_passes : jchk 6 cX6_passes (some .boolean) 2 43 kX6_passes = true := by decide +kernel
def kX6_passSet : List jI := [(0, .iconst 0, 1, 0, 0, 0, []),
  (1, .istore_n 2, 1, 2, 0, 0, []),
  (2, .iconst 0, 1, 0, 0, 0, []),
  (3, .istore_n 3, 1, 3, 0, 0, []),
  (4, .iload_n 3, 1, 3, 0, 0, []),
  (5, .aload_n 0, 1, 0, 0, 0, []),
  (6, .getfield 19, 3, 6, 1, 0, []),
  (9, .getfield 102, 3, 0, 2, 0, []),
  (12, .if_icmp .ge 24, 3, 0, 0, 0, [22]),
  (15, .aload_n 0, 1, 0, 0, 0, []),
  (16, .iload_n 1, 1, 1, 0, 0, []),
  (17, .iload_n 3, 1, 3, 0, 0, []),
  (18, .invokevirtual 187, 3, 69, 2, 6, []),
  (21, .ifCond .eq 9, 3, 0, 0, 0, [20]),
  (24, .iload_n 2, 1, 2, 0, 0, []),
  (25, .iconst 1, 1, 0, 0, 1, []),
  (26, .iload_n 3, 1, 3, 0, 0, []),
  (27, .ishl, 1, 0, 0, 0, []),
  (28, .ior, 1, 0, 0, 0, []),
  (29, .istore_n 2, 1, 2, 0, 0, []),
  (30, .iinc 3 1, 3, 3, 0, 1, []),
  (33, .goto (-29), 3, 0, 0, 0, [4]),
  (36, .iload_n 2, 1, 2, 0, 0, []),
  (37, .ireturn, 1, 0, 0, 0, [])]
theorem gX6_passSet : jchk 6 cX6_passSet (some .int) 3 65 kX6_passSet = true := by decide +kernel
def kX6_passCount : List jI := [(0, .aload_n 0, 1, 0, 0, 0, []),
  (1, .getfield 19, 3, 6, 1, 0, []),
  (4, .getfield 137, 3, 0, 3, 0, []),
  (7, .iload_n 1, 1, 1, 0, 0, []),
  (8, .iaload, 1, 0, 0, 0, []),
  (9, .istore_n 2, 1, 2, 0, 0, []),
  (10, .iconst 1, 1, 0, 0, 1, []),
  (11, .istore_n 3, 1, 3, 0, 0, []),
  (12, .iconst 0, 1, 0, 0, 0, []),
  (13, .istore 4, 2, 4, 0, 0, []),
  (15, .iload 4, 2, 4, 0, 0, []),
  (17, .iconst 3, 1, 0, 0, 3, []),
  (18, .if_icmp .ge 48, 3, 0, 0, 0, [39]),
  (21, .aload_n 0, 1, 0, 0, 0, []),
  (22, .getfield 26, 3, 6, 2, 0, []),
  (25, .getfield 134, 3, 5, 0, 0, []),
  (28, .iload_n 1, 1, 1, 0, 0, []),
  (29, .iaload, 1, 0, 0, 0, []),
  (30, .iload 4, 2, 4, 0, 0, []),
  (32, .invokestatic 268, 3, 66, 2, 0, []),
  (35, .istore 5, 2, 5, 0, 0, []),
  (37, .iload_n 3, 1, 3, 0, 0, []),
  (38, .iload 5, 2, 5, 0, 0, []),
  (40, .iload_n 2, 1, 2, 0, 0, []),
  (41, .iadd, 1, 0, 0, 0, []),
  (42, .bipush 9, 2, 0, 0, 9, []),
  (44, .invokestatic 220, 3, 0, 0, 1, []),
  (47, .iload 5, 2, 5, 0, 0, []),
  (49, .iload_n 2, 1, 2, 0, 0, []),
  (50, .isub, 1, 0, 0, 0, []),
  (51, .iconst 0, 1, 0, 0, 0, []),
  (52, .invokestatic 225, 3, 0, 0, 2, []),
  (55, .isub, 1, 0, 0, 0, []),
  (56, .iconst 1, 1, 0, 0, 1, []),
  (57, .iadd, 1, 0, 0, 0, []),
  (58, .imul, 1, 0, 0, 0, []),
  (59, .istore_n 3, 1, 3, 0, 0, []),
  (60, .iinc 4 1, 3, 4, 0, 1, []),
  (63, .goto (-48), 3, 0, 0, 0, [10]),
  (66, .iload_n 3, 1, 3, 0, 0, []),
  (67, .ireturn, 1, 0, 0, 0, [])]
theorem gX6_passCount : jchk 6 cX6_passCount (some .int) 1 21 kX6_passCount = true := by decide +kernel
def kX6_weight : List jI := [(0, .aload_n 0, 1, 0, 0, 0, []),
  (1, .iload_n 1, 1, 1, 0, 0, []),
  (2, .invokevirtual 196, 3, 71, 1, 6, []),
  (5, .istore_n 2, 1, 2, 0, 0, []),
  (6, .iload_n 2, 1, 2, 0, 0, []),
  (7, .ifCond .gt 7, 3, 0, 0, 0, [8]),
  (10, .iconst 0, 1, 0, 0, 0, []),
  (11, .goto 8, 3, 0, 0, 0, [11]),
  (14, .ldc_w 271, 3, 0, 0, 1000000, []),
  (17, .iload_n 2, 1, 2, 0, 0, []),
  (18, .idiv, 1, 0, 0, 0, []),
  (19, .ireturn, 1, 0, 0, 0, [])]
theorem gX6_weight : jchk 6 cX6_weight (some .int) 2 46 kX6_weight = true := by decide +kernel
def kX6_toldApart : List jI := [(0, .aload_n 1, 1, 1, 0, 0, []),
  (1, .getfield 134, 3, 5, 0, 0, []),
  (4, .iload_n 2, 1, 2, 0, 0, []),
  (5, .iaload, 1, 0, 0, 0, []),
  (6, .aload_n 1, 1, 1, 0, 0, []),
  (7, .getfield 134, 3, 5, 0, 0, []),
  (10, .iload_n 3, 1, 3, 0, 0, []),
  (11, .iaload, 1, 0, 0, 0, []),
  (12, .aload_n 0, 1, 0, 0, 0, []),
  (13, .getfield 19, 3, 6, 1, 0, []),
  (16, .getfield 137, 3, 0, 3, 0, []),
  (19, .iload_n 2, 1, 2, 0, 0, []),
  (20, .iaload, 1, 0, 0, 0, []),
  (21, .aload_n 0, 1, 0, 0, 0, []),
  (22, .getfield 19, 3, 6, 1, 0, []),
  (25, .getfield 137, 3, 0, 3, 0, []),
  (28, .iload_n 3, 1, 3, 0, 0, []),
  (29, .iaload, 1, 0, 0, 0, []),
  (30, .iadd, 1, 0, 0, 0, []),
  (31, .invokestatic 264, 3, 68, 3, 0, []),
  (34, .ifCond .ne 7, 3, 0, 0, 0, [23]),
  (37, .iconst 1, 1, 0, 0, 1, []),
  (38, .goto 4, 3, 0, 0, 0, [24]),
  (41, .iconst 0, 1, 0, 0, 0, []),
  (42, .ireturn, 1, 0, 0, 1, [])]
theorem gX6_toldApart : jchk 6 cX6_toldApart (some .boolean) 2 43 kX6_toldApart = true := by decide +kernel
def kX6_allToldApart : List jI := [(0, .iconst 0, 1, 0, 0, 0, []),
  (1, .istore_n 2, 1, 2, 0, 0, []),
  (2, .iload_n 2, 1, 2, 0, 0, []),
  (3, .aload_n 0, 1, 0, 0, 0, []),
  (4, .getfield 19, 3, 6, 1, 0, []),
  (7, .getfield 102, 3, 0, 2, 0, []),
  (10, .if_icmp .ge 70, 3, 0, 0, 0, [46]),
  (13, .iload_n 2, 1, 2, 0, 0, []),
  (14, .iconst 1, 1, 0, 0, 1, []),
  (15, .iadd, 1, 0, 0, 0, []),
  (16, .istore_n 3, 1, 3, 0, 0, []),
  (17, .iload_n 3, 1, 3, 0, 0, []),
  (18, .aload_n 0, 1, 0, 0, 0, []),
  (19, .getfield 19, 3, 6, 1, 0, []),
  (22, .getfield 102, 3, 0, 2, 0, []),
  (25, .if_icmp .ge 49, 3, 0, 0, 0, [44]),
  (28, .iload_n 1, 1, 1, 0, 0, []),
  (29, .iload_n 2, 1, 2, 0, 0, []),
  (30, .ishr, 1, 0, 0, 0, []),
  (31, .iload_n 1, 1, 1, 0, 0, []),
  (32, .iload_n 3, 1, 3, 0, 0, []),
  (33, .ishr, 1, 0, 0, 0, []),
  (34, .iand, 1, 0, 0, 0, []),
  (35, .iconst 1, 1, 0, 0, 1, []),
  (36, .iand, 1, 0, 0, 0, []),
  (37, .iconst 1, 1, 0, 0, 1, []),
  (38, .if_icmp .ne 7, 3, 0, 0, 0, [29]),
  (41, .iconst 1, 1, 0, 0, 1, []),
  (42, .goto 4, 3, 0, 0, 0, [30]),
  (45, .iconst 0, 1, 0, 0, 0, []),
  (46, .istore 4, 2, 4, 0, 0, []),
  (48, .iload 4, 2, 4, 0, 0, []),
  (50, .ifCond .eq 18, 3, 0, 0, 0, [42]),
  (53, .aload_n 0, 1, 0, 0, 0, []),
  (54, .aload_n 0, 1, 0, 0, 0, []),
  (55, .getfield 26, 3, 6, 2, 0, []),
  (58, .iload_n 2, 1, 2, 0, 0, []),
  (59, .iload_n 3, 1, 3, 0, 0, []),
  (60, .invokevirtual 216, 3, 73, 3, 6, []),
  (63, .ifCond .ne 5, 3, 0, 0, 0, [42]),
  (66, .iconst 0, 1, 0, 0, 0, []),
  (67, .ireturn, 1, 0, 0, 1, []),
  (68, .iinc 3 1, 3, 3, 0, 1, []),
  (71, .goto (-54), 3, 0, 0, 0, [11]),
  (74, .iinc 2 1, 3, 2, 0, 1, []),
  (77, .goto (-75), 3, 0, 0, 0, [2]),
  (80, .iconst 1, 1, 0, 0, 1, []),
  (81, .ireturn, 1, 0, 0, 1, [])]
theorem gX6_allToldApart : jchk 6 cX6_allToldApart (some .boolean) 3 66 kX6_allToldApart = true := by decide +kernel
def kX6_nearestTo : List jI := [(0, .iconst (-1), 1, 0, 0, -1, []),
  (1, .istore_n 2, 1, 2, 0, 0, []),
  (2, .bipush 100, 2, 0, 0, 100, []),
  (4, .istore_n 3, 1, 3, 0, 0, []),
  (5, .iconst 0, 1, 0, 0, 0, []),
  (6, .istore 4, 2, 4, 0, 0, []),
  (8, .iload 4, 2, 4, 0, 0, []),
  (10, .aload_n 0, 1, 0, 0, 0, []),
  (11, .getfield 19, 3, 6, 1, 0, []),
  (14, .getfield 102, 3, 0, 2, 0, []),
  (17, .if_icmp .ge 51, 3, 0, 0, 0, [35]),
  (20, .aload_n 0, 1, 0, 0, 0, []),
  (21, .getfield 26, 3, 6, 2, 0, []),
  (24, .getfield 134, 3, 5, 0, 0, []),
  (27, .iload_n 1, 1, 1, 0, 0, []),
  (28, .iaload, 1, 0, 0, 0, []),
  (29, .aload_n 0, 1, 0, 0, 0, []),
  (30, .getfield 26, 3, 6, 2, 0, []),
  (33, .getfield 134, 3, 5, 0, 0, []),
  (36, .iload 4, 2, 4, 0, 0, []),
  (38, .iaload, 1, 0, 0, 0, []),
  (39, .invokestatic 143, 3, 67, 2, 0, []),
  (42, .istore 5, 2, 5, 0, 0, []),
  (44, .iload 4, 2, 4, 0, 0, []),
  (46, .iload_n 1, 1, 1, 0, 0, []),
  (47, .if_icmp .eq 15, 3, 0, 0, 0, [33]),
  (50, .iload 5, 2, 5, 0, 0, []),
  (52, .iload_n 3, 1, 3, 0, 0, []),
  (53, .if_icmp .ge 9, 3, 0, 0, 0, [33]),
  (56, .iload 5, 2, 5, 0, 0, []),
  (58, .istore_n 3, 1, 3, 0, 0, []),
  (59, .iload 4, 2, 4, 0, 0, []),
  (61, .istore_n 2, 1, 2, 0, 0, []),
  (62, .iinc 4 1, 3, 4, 0, 1, []),
  (65, .goto (-57), 3, 0, 0, 0, [6]),
  (68, .iload_n 2, 1, 2, 0, 0, []),
  (69, .ireturn, 1, 0, 0, 0, [])]
theorem gX6_nearestTo : jchk 6 cX6_nearestTo (some .int) 2 42 kX6_nearestTo = true := by decide +kernel
def kX6_nextOfTree : List jI := [(0, .iconst (-1), 1, 0, 0, -1, []),
  (1, .istore_n 1, 1, 1, 0, 0, []),
  (2, .bipush 100, 2, 0, 0, 100, []),
  (4, .istore_n 2, 1, 2, 0, 0, []),
  (5, .iconst 0, 1, 0, 0, 0, []),
  (6, .istore_n 3, 1, 3, 0, 0, []),
  (7, .iload_n 3, 1, 3, 0, 0, []),
  (8, .aload_n 0, 1, 0, 0, 0, []),
  (9, .getfield 19, 3, 6, 1, 0, []),
  (12, .getfield 102, 3, 0, 2, 0, []),
  (15, .if_icmp .ge 89, 3, 0, 0, 0, [56]),
  (18, .iload_n 3, 1, 3, 0, 0, []),
  (19, .iconst 1, 1, 0, 0, 1, []),
  (20, .iadd, 1, 0, 0, 0, []),
  (21, .istore 4, 2, 4, 0, 0, []),
  (23, .iload 4, 2, 4, 0, 0, []),
  (25, .aload_n 0, 1, 0, 0, 0, []),
  (26, .getfield 19, 3, 6, 1, 0, []),
  (29, .getfield 102, 3, 0, 2, 0, []),
  (32, .if_icmp .ge 66, 3, 0, 0, 0, [54]),
  (35, .aload_n 0, 1, 0, 0, 0, []),
  (36, .getfield 26, 3, 6, 2, 0, []),
  (39, .getfield 134, 3, 5, 0, 0, []),
  (42, .iload_n 3, 1, 3, 0, 0, []),
  (43, .iaload, 1, 0, 0, 0, []),
  (44, .aload_n 0, 1, 0, 0, 0, []),
  (45, .getfield 26, 3, 6, 2, 0, []),
  (48, .getfield 134, 3, 5, 0, 0, []),
  (51, .iload 4, 2, 4, 0, 0, []),
  (53, .iaload, 1, 0, 0, 0, []),
  (54, .invokestatic 143, 3, 67, 2, 0, []),
  (57, .istore 5, 2, 5, 0, 0, []),
  (59, .aload_n 0, 1, 0, 0, 0, []),
  (60, .getfield 54, 3, 6, 7, 0, []),
  (63, .iload_n 3, 1, 3, 0, 0, []),
  (64, .iaload, 1, 0, 0, 0, []),
  (65, .aload_n 0, 1, 0, 0, 0, []),
  (66, .getfield 54, 3, 6, 7, 0, []),
  (69, .iload 4, 2, 4, 0, 0, []),
  (71, .iaload, 1, 0, 0, 0, []),
  (72, .if_icmp .eq 20, 3, 0, 0, 0, [52]),
  (75, .iload 5, 2, 5, 0, 0, []),
  (77, .iload_n 2, 1, 2, 0, 0, []),
  (78, .if_icmp .ge 14, 3, 0, 0, 0, [52]),
  (81, .iload 5, 2, 5, 0, 0, []),
  (83, .istore_n 2, 1, 2, 0, 0, []),
  (84, .bipush 10, 2, 0, 0, 10, []),
  (86, .iload_n 3, 1, 3, 0, 0, []),
  (87, .imul, 1, 0, 0, 0, []),
  (88, .iload 4, 2, 4, 0, 0, []),
  (90, .iadd, 1, 0, 0, 0, []),
  (91, .istore_n 1, 1, 1, 0, 0, []),
  (92, .iinc 4 1, 3, 4, 0, 1, []),
  (95, .goto (-72), 3, 0, 0, 0, [15]),
  (98, .iinc 3 1, 3, 3, 0, 1, []),
  (101, .goto (-94), 3, 0, 0, 0, [6]),
  (104, .iload_n 1, 1, 1, 0, 0, []),
  (105, .ireturn, 1, 0, 0, 0, [])]
theorem gX6_nextOfTree : jchk 6 cX6_nextOfTree (some .int) 2 42 kX6_nextOfTree = true := by decide +kernel
def kX6_joinGroups : List jI := [(0, .aload_n 0, 1, 0, 0, 0, []),
  (1, .getfield 54, 3, 6, 7, 0, []),
  (4, .iload_n 2, 1, 2, 0, 0, []),
  (5, .iaload, 1, 0, 0, 0, []),
  (6, .istore_n 3, 1, 3, 0, 0, []),
  (7, .aload_n 0, 1, 0, 0, 0, []),
  (8, .getfield 54, 3, 6, 7, 0, []),
  (11, .iload_n 1, 1, 1, 0, 0, []),
  (12, .iaload, 1, 0, 0, 0, []),
  (13, .istore 4, 2, 4, 0, 0, []),
  (15, .iconst 0, 1, 0, 0, 0, []),
  (16, .istore 5, 2, 5, 0, 0, []),
  (18, .iload 5, 2, 5, 0, 0, []),
  (20, .aload_n 0, 1, 0, 0, 0, []),
  (21, .getfield 19, 3, 6, 1, 0, []),
  (24, .getfield 102, 3, 0, 2, 0, []),
  (27, .if_icmp .ge 29, 3, 0, 0, 0, [30]),
  (30, .aload_n 0, 1, 0, 0, 0, []),
  (31, .getfield 54, 3, 6, 7, 0, []),
  (34, .iload 5, 2, 5, 0, 0, []),
  (36, .iaload, 1, 0, 0, 0, []),
  (37, .iload_n 3, 1, 3, 0, 0, []),
  (38, .if_icmp .ne 12, 3, 0, 0, 0, [28]),
  (41, .aload_n 0, 1, 0, 0, 0, []),
  (42, .getfield 54, 3, 6, 7, 0, []),
  (45, .iload 5, 2, 5, 0, 0, []),
  (47, .iload 4, 2, 4, 0, 0, []),
  (49, .iastore, 1, 0, 0, 0, []),
  (50, .iinc 5 1, 3, 5, 0, 1, []),
  (53, .goto (-35), 3, 0, 0, 0, [12]),
  (56, .return_, 1, 0, 0, 0, [])]
theorem gX6_joinGroups : jchk 6 cX6_joinGroups none 0 0 kX6_joinGroups = true := by decide +kernel
def kX6_choice : List jI := [(0, .iconst (-1), 1, 0, 0, -1, []),
  (1, .istore_n 2, 1, 2, 0, 0, []),
  (2, .bipush 100, 2, 0, 0, 100, []),
  (4, .istore_n 3, 1, 3, 0, 0, []),
  (5, .iconst 0, 1, 0, 0, 0, []),
  (6, .istore 4, 2, 4, 0, 0, []),
  (8, .iload 4, 2, 4, 0, 0, []),
  (10, .aload_n 0, 1, 0, 0, 0, []),
  (11, .getfield 19, 3, 6, 1, 0, []),
  (14, .getfield 114, 3, 0, 5, 0, []),
  (17, .if_icmp .ge 37, 3, 0, 0, 0, [28]),
  (20, .iload_n 1, 1, 1, 0, 0, []),
  (21, .aload_n 0, 1, 0, 0, 0, []),
  (22, .getfield 19, 3, 6, 1, 0, []),
  (25, .getfield 159, 3, 0, 6, 0, []),
  (28, .iload 4, 2, 4, 0, 0, []),
  (30, .iaload, 1, 0, 0, 0, []),
  (31, .invokestatic 143, 3, 67, 2, 0, []),
  (34, .istore 5, 2, 5, 0, 0, []),
  (36, .iload 5, 2, 5, 0, 0, []),
  (38, .iload_n 3, 1, 3, 0, 0, []),
  (39, .if_icmp .ge 9, 3, 0, 0, 0, [26]),
  (42, .iload 5, 2, 5, 0, 0, []),
  (44, .istore_n 3, 1, 3, 0, 0, []),
  (45, .iload 4, 2, 4, 0, 0, []),
  (47, .istore_n 2, 1, 2, 0, 0, []),
  (48, .iinc 4 1, 3, 4, 0, 1, []),
  (51, .goto (-43), 3, 0, 0, 0, [6]),
  (54, .iload_n 2, 1, 2, 0, 0, []),
  (55, .ireturn, 1, 0, 0, 0, [])]
theorem gX6_choice : jchk 6 cX6_choice (some .int) 2 42 kX6_choice = true := by decide +kernel
def kX6_greatestAlike : List jI := [(0, .iconst 0, 1, 0, 0, 0, []),
  (1, .istore_n 3, 1, 3, 0, 0, []),
  (2, .iconst 0, 1, 0, 0, 0, []),
  (3, .istore 4, 2, 4, 0, 0, []),
  (5, .iload 4, 2, 4, 0, 0, []),
  (7, .bipush 10, 2, 0, 0, 10, []),
  (9, .if_icmp .ge 72, 3, 0, 0, 0, [41]),
  (12, .iconst 0, 1, 0, 0, 0, []),
  (13, .istore 5, 2, 5, 0, 0, []),
  (15, .iconst 0, 1, 0, 0, 0, []),
  (16, .istore 6, 2, 6, 0, 0, []),
  (18, .iload 6, 2, 6, 0, 0, []),
  (20, .aload_n 0, 1, 0, 0, 0, []),
  (21, .getfield 19, 3, 6, 1, 0, []),
  (24, .getfield 102, 3, 0, 2, 0, []),
  (27, .if_icmp .ge 41, 3, 0, 0, 0, [35]),
  (30, .iload_n 1, 1, 1, 0, 0, []),
  (31, .iload 6, 2, 6, 0, 0, []),
  (33, .ishr, 1, 0, 0, 0, []),
  (34, .iconst 1, 1, 0, 0, 1, []),
  (35, .iand, 1, 0, 0, 0, []),
  (36, .iconst 1, 1, 0, 0, 1, []),
  (37, .if_icmp .ne 25, 3, 0, 0, 0, [33]),
  (40, .aload_n 0, 1, 0, 0, 0, []),
  (41, .getfield 26, 3, 6, 2, 0, []),
  (44, .getfield 134, 3, 5, 0, 0, []),
  (47, .iload 6, 2, 6, 0, 0, []),
  (49, .iaload, 1, 0, 0, 0, []),
  (50, .iload_n 2, 1, 2, 0, 0, []),
  (51, .invokestatic 268, 3, 66, 2, 0, []),
  (54, .iload 4, 2, 4, 0, 0, []),
  (56, .if_icmp .ne 6, 3, 0, 0, 0, [33]),
  (59, .iinc 5 1, 3, 5, 0, 1, []),
  (62, .iinc 6 1, 3, 6, 0, 1, []),
  (65, .goto (-47), 3, 0, 0, 0, [11]),
  (68, .iload_n 3, 1, 3, 0, 0, []),
  (69, .iload 5, 2, 5, 0, 0, []),
  (71, .invokestatic 225, 3, 0, 0, 2, []),
  (74, .istore_n 3, 1, 3, 0, 0, []),
  (75, .iinc 4 1, 3, 4, 0, 1, []),
  (78, .goto (-73), 3, 0, 0, 0, [4]),
  (81, .iload_n 3, 1, 3, 0, 0, []),
  (82, .ireturn, 1, 0, 0, 0, [])]
theorem gX6_greatestAlike : jchk 6 cX6_greatestAlike (some .int) 1 21 kX6_greatestAlike = true := by decide +kernel
end
section
/-! THE CODE of the methods, with what each instruction needs; checked against the bytes -/
def kX6_passYears : List jI := [(0, .iconst 0, 1, 0, 0, 0, []),
  (1, .istore_n 3, 1, 3, 0, 0, []),
  (2, .iload_n 3, 1, 3, 0, 0, []),
  (3, .iload_n 2, 1, 2, 0, 0, []),
  (4, .if_icmp .ge 87, 3, 0, 0, 0, [48]),
  (7, .aload_n 1, 1, 1, 0, 0, []),
  (8, .getfield 117, 3, 5, 4, 0, []),
  (11, .iconst 2, 1, 0, 0, 2, []),
  (12, .irem, 1, 0, 0, 0, []),
  (13, .iconst 1, 1, 0, 0, 1, []),
  (14, .if_icmp .ne 7, 3, 0, 0, 0, [13]),
  (17, .iconst 1, 1, 0, 0, 1, []),
  (18, .goto 4, 3, 0, 0, 0, [14]),
  (21, .iconst 0, 1, 0, 0, 0, []),
  (22, .istore 4, 2, 4, 0, 0, []),
  (24, .iconst 0, 1, 0, 0, 0, []),
  (25, .istore 5, 2, 5, 0, 0, []),
  (27, .iload 5, 2, 5, 0, 0, []),
  (29, .aload_n 0, 1, 0, 0, 0, []),
  (30, .getfield 19, 3, 6, 1, 0, []),
  (33, .getfield 102, 3, 0, 2, 0, []),
  (36, .if_icmp .ge 39, 3, 0, 0, 0, [40]),
  (39, .aload_n 1, 1, 1, 0, 0, []),
  (40, .getfield 134, 3, 5, 0, 0, []),
  (43, .iload 5, 2, 5, 0, 0, []),
  (45, .aload_n 0, 1, 0, 0, 0, []),
  (46, .aload_n 1, 1, 1, 0, 0, []),
  (47, .getfield 134, 3, 5, 0, 0, []),
  (50, .iload 5, 2, 5, 0, 0, []),
  (52, .iaload, 1, 0, 0, 0, []),
  (53, .aload_n 0, 1, 0, 0, 0, []),
  (54, .getfield 19, 3, 6, 1, 0, []),
  (57, .getfield 140, 3, 0, 4, 0, []),
  (60, .iload 5, 2, 5, 0, 0, []),
  (62, .iaload, 1, 0, 0, 0, []),
  (63, .iload 4, 2, 4, 0, 0, []),
  (65, .invokevirtual 272, 3, 81, 3, 6, []),
  (68, .iastore, 1, 0, 0, 0, []),
  (69, .iinc 5 1, 3, 5, 0, 1, []),
  (72, .goto (-45), 3, 0, 0, 0, [17]),
  (75, .aload_n 1, 1, 1, 0, 0, []),
  (76, .dup, 1, 0, 0, 0, []),
  (77, .getfield 117, 3, 5, 4, 0, []),
  (80, .iconst 1, 1, 0, 0, 1, []),
  (81, .iadd, 1, 0, 0, 0, []),
  (82, .putfield 117, 3, 5, 4, 0, []),
  (85, .iinc 3 1, 3, 3, 0, 1, []),
  (88, .goto (-86), 3, 0, 0, 0, [2]),
  (91, .return_, 1, 0, 0, 0, [])]
theorem gX6_passYears : jchk 6 cX6_passYears none 2 47 kX6_passYears = true := by decide +kernel
def kX6_aged : List jI := [(0, .iload_n 1, 1, 1, 0, 0, []),
  (1, .iconst 0, 1, 0, 0, 0, []),
  (2, .invokestatic 268, 3, 66, 2, 0, []),
  (5, .istore 4, 2, 4, 0, 0, []),
  (7, .aload_n 0, 1, 0, 0, 0, []),
  (8, .getfield 19, 3, 6, 1, 0, []),
  (11, .getfield 108, 3, 0, 1, 0, []),
  (14, .iconst 0, 1, 0, 0, 0, []),
  (15, .invokestatic 268, 3, 66, 2, 0, []),
  (18, .istore 5, 2, 5, 0, 0, []),
  (20, .iload 4, 2, 4, 0, 0, []),
  (22, .iload 5, 2, 5, 0, 0, []),
  (24, .if_icmp .ge 15, 3, 0, 0, 0, [19]),
  (27, .iload 4, 2, 4, 0, 0, []),
  (29, .iload_n 2, 1, 2, 0, 0, []),
  (30, .iadd, 1, 0, 0, 0, []),
  (31, .iload 5, 2, 5, 0, 0, []),
  (33, .invokestatic 220, 3, 0, 0, 1, []),
  (36, .goto 12, 3, 0, 0, 0, [24]),
  (39, .iload 4, 2, 4, 0, 0, []),
  (41, .iload_n 2, 1, 2, 0, 0, []),
  (42, .isub, 1, 0, 0, 0, []),
  (43, .iload 5, 2, 5, 0, 0, []),
  (45, .invokestatic 225, 3, 0, 0, 2, []),
  (48, .istore 4, 2, 4, 0, 0, []),
  (50, .iload_n 1, 1, 1, 0, 0, []),
  (51, .iconst 2, 1, 0, 0, 2, []),
  (52, .invokestatic 268, 3, 66, 2, 0, []),
  (55, .istore 6, 2, 6, 0, 0, []),
  (57, .iload_n 3, 1, 3, 0, 0, []),
  (58, .ifCond .eq 13, 3, 0, 0, 0, [37]),
  (61, .iload 6, 2, 6, 0, 0, []),
  (63, .iconst 1, 1, 0, 0, 1, []),
  (64, .isub, 1, 0, 0, 0, []),
  (65, .iconst 0, 1, 0, 0, 0, []),
  (66, .invokestatic 225, 3, 0, 0, 2, []),
  (69, .istore 6, 2, 6, 0, 0, []),
  (71, .bipush 100, 2, 0, 0, 100, []),
  (73, .iload 4, 2, 4, 0, 0, []),
  (75, .imul, 1, 0, 0, 0, []),
  (76, .bipush 10, 2, 0, 0, 10, []),
  (78, .iload_n 1, 1, 1, 0, 0, []),
  (79, .iconst 1, 1, 0, 0, 1, []),
  (80, .invokestatic 268, 3, 66, 2, 0, []),
  (83, .imul, 1, 0, 0, 0, []),
  (84, .iadd, 1, 0, 0, 0, []),
  (85, .iload 6, 2, 6, 0, 0, []),
  (87, .iadd, 1, 0, 0, 0, []),
  (88, .ireturn, 1, 0, 0, 0, [])]
theorem gX6_aged : jchk 6 cX6_aged (some .int) 1 21 kX6_aged = true := by decide +kernel
def kX6_shakeOnce : List jI := [(0, .aload_n 0, 1, 0, 0, 0, []),
  (1, .aload_n 0, 1, 0, 0, 0, []),
  (2, .getfield 19, 3, 6, 1, 0, []),
  (5, .getfield 102, 3, 0, 2, 0, []),
  (8, .invokevirtual 276, 3, 83, 1, 6, []),
  (11, .istore_n 1, 1, 1, 0, 0, []),
  (12, .aload_n 0, 1, 0, 0, 0, []),
  (13, .iconst 3, 1, 0, 0, 3, []),
  (14, .invokevirtual 276, 3, 83, 1, 6, []),
  (17, .istore_n 2, 1, 2, 0, 0, []),
  (18, .aload_n 0, 1, 0, 0, 0, []),
  (19, .iconst 2, 1, 0, 0, 2, []),
  (20, .invokevirtual 276, 3, 83, 1, 6, []),
  (23, .iconst 1, 1, 0, 0, 1, []),
  (24, .if_icmp .ne 7, 3, 0, 0, 0, [17]),
  (27, .iconst 1, 1, 0, 0, 1, []),
  (28, .goto 4, 3, 0, 0, 0, [18]),
  (31, .iconst (-1), 1, 0, 0, -1, []),
  (32, .istore_n 3, 1, 3, 0, 0, []),
  (33, .aload_n 0, 1, 0, 0, 0, []),
  (34, .iload_n 1, 1, 1, 0, 0, []),
  (35, .invokevirtual 129, 3, 61, 1, 6, []),
  (38, .ifCond .ne 4, 3, 0, 0, 0, [24]),
  (41, .return_, 1, 0, 0, 0, []),
  (42, .aload_n 0, 1, 0, 0, 0, []),
  (43, .getfield 26, 3, 6, 2, 0, []),
  (46, .getfield 134, 3, 5, 0, 0, []),
  (49, .iload_n 1, 1, 1, 0, 0, []),
  (50, .iaload, 1, 0, 0, 0, []),
  (51, .iload_n 2, 1, 2, 0, 0, []),
  (52, .invokestatic 268, 3, 66, 2, 0, []),
  (55, .istore 4, 2, 4, 0, 0, []),
  (57, .iconst 0, 1, 0, 0, 0, []),
  (58, .bipush 9, 2, 0, 0, 9, []),
  (60, .iload 4, 2, 4, 0, 0, []),
  (62, .iload_n 3, 1, 3, 0, 0, []),
  (63, .iadd, 1, 0, 0, 0, []),
  (64, .invokestatic 220, 3, 0, 0, 1, []),
  (67, .invokestatic 225, 3, 0, 0, 2, []),
  (70, .istore 5, 2, 5, 0, 0, []),
  (72, .iload_n 2, 1, 2, 0, 0, []),
  (73, .ifCond .ne 8, 3, 0, 0, 0, [44]),
  (76, .bipush 100, 2, 0, 0, 100, []),
  (78, .goto 14, 3, 0, 0, 0, [50]),
  (81, .iload_n 2, 1, 2, 0, 0, []),
  (82, .iconst 1, 1, 0, 0, 1, []),
  (83, .if_icmp .ne 8, 3, 0, 0, 0, [49]),
  (86, .bipush 10, 2, 0, 0, 10, []),
  (88, .goto 4, 3, 0, 0, 0, [50]),
  (91, .iconst 1, 1, 0, 0, 1, []),
  (92, .istore 6, 2, 6, 0, 0, []),
  (94, .aload_n 0, 1, 0, 0, 0, []),
  (95, .getfield 26, 3, 6, 2, 0, []),
  (98, .getfield 134, 3, 5, 0, 0, []),
  (101, .iload_n 1, 1, 1, 0, 0, []),
  (102, .dup2, 1, 0, 0, 0, []),
  (103, .iaload, 1, 0, 0, 0, []),
  (104, .iload 6, 2, 6, 0, 0, []),
  (106, .iload 5, 2, 5, 0, 0, []),
  (108, .iload 4, 2, 4, 0, 0, []),
  (110, .isub, 1, 0, 0, 0, []),
  (111, .imul, 1, 0, 0, 0, []),
  (112, .iadd, 1, 0, 0, 0, []),
  (113, .iastore, 1, 0, 0, 0, []),
  (114, .return_, 1, 0, 0, 0, [])]
theorem gX6_shakeOnce : jchk 6 cX6_shakeOnce none 1 21 kX6_shakeOnce = true := by decide +kernel
def kX6_draw : List jI := [(0, .aload_n 0, 1, 0, 0, 0, []),
  (1, .aload_n 0, 1, 0, 0, 0, []),
  (2, .getfield 58, 3, 6, 8, 0, []),
  (5, .i2l, 1, 0, 0, 0, []),
  (6, .ldc2_w 279, 3, 0, 0, 1103515245, []),
  (9, .lmul, 1, 0, 0, 0, []),
  (10, .ldc2_w 281, 3, 0, 0, 12345, []),
  (13, .ladd, 1, 0, 0, 0, []),
  (14, .ldc2_w 283, 3, 0, 0, 2147483648, []),
  (17, .lrem, 1, 0, 0, 0, []),
  (18, .l2i, 1, 0, 0, 0, []),
  (19, .putfield 58, 3, 6, 8, 0, []),
  (22, .iload_n 1, 1, 1, 0, 0, []),
  (23, .ifCond .gt 7, 3, 0, 0, 0, [16]),
  (26, .iconst 0, 1, 0, 0, 0, []),
  (27, .goto 13, 3, 0, 0, 0, [22]),
  (30, .aload_n 0, 1, 0, 0, 0, []),
  (31, .getfield 58, 3, 6, 8, 0, []),
  (34, .ldc_w 285, 3, 0, 0, 65536, []),
  (37, .idiv, 1, 0, 0, 0, []),
  (38, .iload_n 1, 1, 1, 0, 0, []),
  (39, .irem, 1, 0, 0, 0, []),
  (40, .ireturn, 1, 0, 0, 0, [])]
theorem gX6_draw : jchk 6 cX6_draw (some .int) 0 0 kX6_draw = true := by decide +kernel
def kX7_in : List jI := [(0, .lload_n 0, 1, 0, 0, 0, []),
  (1, .lload_n 2, 1, 2, 0, 0, []),
  (2, .lcmp, 1, 0, 0, 0, []),
  (3, .ifCond .lt 14, 3, 0, 0, 0, [10]),
  (6, .lload_n 0, 1, 0, 0, 0, []),
  (7, .lload 4, 2, 4, 0, 0, []),
  (9, .lcmp, 1, 0, 0, 0, []),
  (10, .ifCond .gt 7, 3, 0, 0, 0, [10]),
  (13, .iconst 1, 1, 0, 0, 1, []),
  (14, .goto 4, 3, 0, 0, 0, [11]),
  (17, .iconst 0, 1, 0, 0, 0, []),
  (18, .ireturn, 1, 0, 0, 1, [])]
theorem gX7_in : jchk 7 cX7_in (some .boolean) 0 0 kX7_in = true := by decide +kernel
def kX7_has : List jI := [(0, .iload_n 0, 1, 0, 0, 0, []),
  (1, .iload_n 1, 1, 1, 0, 0, []),
  (2, .ishr, 1, 0, 0, 0, []),
  (3, .iconst 1, 1, 0, 0, 1, []),
  (4, .iand, 1, 0, 0, 0, []),
  (5, .iconst 1, 1, 0, 0, 1, []),
  (6, .if_icmp .ne 7, 3, 0, 0, 0, [9]),
  (9, .iconst 1, 1, 0, 0, 1, []),
  (10, .goto 4, 3, 0, 0, 0, [10]),
  (13, .iconst 0, 1, 0, 0, 0, []),
  (14, .ireturn, 1, 0, 0, 1, [])]
theorem gX7_has : jchk 7 cX7_has (some .boolean) 0 0 kX7_has = true := by decide +kernel
def kX7_ones : List jI := [(0, .iconst 0, 1, 0, 0, 0, []),
  (1, .istore_n 1, 1, 1, 0, 0, []),
  (2, .iconst 0, 1, 0, 0, 0, []),
  (3, .istore_n 2, 1, 2, 0, 0, []),
  (4, .iload_n 2, 1, 2, 0, 0, []),
  (5, .bipush 8, 2, 0, 0, 8, []),
  (7, .if_icmp .ge 17, 3, 0, 0, 0, [17]),
  (10, .iload_n 1, 1, 1, 0, 0, []),
  (11, .iload_n 0, 1, 0, 0, 0, []),
  (12, .iload_n 2, 1, 2, 0, 0, []),
  (13, .ishr, 1, 0, 0, 0, []),
  (14, .iconst 1, 1, 0, 0, 1, []),
  (15, .iand, 1, 0, 0, 0, []),
  (16, .iadd, 1, 0, 0, 0, []),
  (17, .istore_n 1, 1, 1, 0, 0, []),
  (18, .iinc 2 1, 3, 2, 0, 1, []),
  (21, .goto (-17), 3, 0, 0, 0, [4]),
  (24, .iload_n 1, 1, 1, 0, 0, []),
  (25, .ireturn, 1, 0, 0, 0, [])]
theorem gX7_ones : jchk 7 cX7_ones (some .int) 0 0 kX7_ones = true := by decide +kernel
def kX7_copy : List jI := [(0, .iconst 0, 1, 0, 0, 0, []),
  (1, .istore_n 3, 1, 3, 0, 0, []),
  (2, .iload_n 3, 1, 3, 0, 0, []),
  (3, .bipush 27, 2, 0, 0, 27, []),
  (5, .if_icmp .ge 25, 3, 0, 0, 0, [19]),
  (8, .aload_n 0, 1, 0, 0, 0, []),
  (9, .getfield 7, 3, 7, 0, 0, []),
  (12, .iload_n 2, 1, 2, 0, 0, []),
  (13, .iload_n 3, 1, 3, 0, 0, []),
  (14, .iadd, 1, 0, 0, 0, []),
  (15, .aload_n 0, 1, 0, 0, 0, []),
  (16, .getfield 7, 3, 7, 0, 0, []),
  (19, .iload_n 1, 1, 1, 0, 0, []),
  (20, .iload_n 3, 1, 3, 0, 0, []),
  (21, .iadd, 1, 0, 0, 0, []),
  (22, .iaload, 1, 0, 0, 0, []),
  (23, .iastore, 1, 0, 0, 0, []),
  (24, .iinc 3 1, 3, 3, 0, 1, []),
  (27, .goto (-25), 3, 0, 0, 0, [2]),
  (30, .return_, 1, 0, 0, 0, [])]
theorem gX7_copy : jchk 7 cX7_copy none 0 0 kX7_copy = true := by decide +kernel
def kX7_isMark : List jI := [(0, .iload_n 0, 1, 0, 0, 0, []),
  (1, .i2l, 1, 0, 0, 0, []),
  (2, .lconst 0, 1, 0, 0, 0, []),
  (3, .ldc2_w 61, 3, 0, 0, 999, []),
  (6, .invokestatic 63, 3, 84, 3, 0, []),
  (9, .ireturn, 1, 0, 0, 1, [])]
theorem gX7_isMark : jchk 7 cX7_isMark (some .boolean) 1 25 kX7_isMark = true := by decide +kernel
def kX7_isPerson : List jI := [(0, .iload_n 1, 1, 1, 0, 0, []),
  (1, .i2l, 1, 0, 0, 0, []),
  (2, .lconst 0, 1, 0, 0, 0, []),
  (3, .aload_n 0, 1, 0, 0, 0, []),
  (4, .getfield 67, 3, 7, 5, 0, []),
  (7, .iconst 1, 1, 0, 0, 1, []),
  (8, .isub, 1, 0, 0, 0, []),
  (9, .i2l, 1, 0, 0, 0, []),
  (10, .invokestatic 63, 3, 84, 3, 0, []),
  (13, .ireturn, 1, 0, 0, 1, [])]
theorem gX7_isPerson : jchk 7 cX7_isPerson (some .boolean) 1 25 kX7_isPerson = true := by decide +kernel
def kX7_isPaper : List jI := [(0, .iload_n 1, 1, 1, 0, 0, []),
  (1, .i2l, 1, 0, 0, 0, []),
  (2, .lconst 0, 1, 0, 0, 0, []),
  (3, .aload_n 0, 1, 0, 0, 0, []),
  (4, .getfield 7, 3, 7, 0, 0, []),
  (7, .iconst 1, 1, 0, 0, 1, []),
  (8, .iaload, 1, 0, 0, 0, []),
  (9, .iconst 1, 1, 0, 0, 1, []),
  (10, .isub, 1, 0, 0, 0, []),
  (11, .i2l, 1, 0, 0, 0, []),
  (12, .invokestatic 63, 3, 84, 3, 0, []),
  (15, .ireturn, 1, 0, 0, 1, [])]
theorem gX7_isPaper : jchk 7 cX7_isPaper (some .boolean) 1 25 kX7_isPaper = true := by decide +kernel
def kX7_isCandidate : List jI := [(0, .iload_n 1, 1, 1, 0, 0, []),
  (1, .i2l, 1, 0, 0, 0, []),
  (2, .lconst 0, 1, 0, 0, 0, []),
  (3, .aload_n 0, 1, 0, 0, 0, []),
  (4, .getfield 70, 3, 7, 8, 0, []),
  (7, .iconst 1, 1, 0, 0, 1, []),
  (8, .isub, 1, 0, 0, 0, []),
  (9, .i2l, 1, 0, 0, 0, []),
  (10, .invokestatic 63, 3, 84, 3, 0, []),
  (13, .ireturn, 1, 0, 0, 1, [])]
theorem gX7_isCandidate : jchk 7 cX7_isCandidate (some .boolean) 1 25 kX7_isCandidate = true := by decide +kernel
def kX7_feed : List jI := [(0, .iload_n 1, 1, 1, 0, 0, []),
  (1, .i2l, 1, 0, 0, 0, []),
  (2, .lconst 0, 1, 0, 0, 0, []),
  (3, .ldc2_w 73, 3, 0, 0, 255, []),
  (6, .invokestatic 63, 3, 84, 3, 0, []),
  (9, .ifCond .ne 6, 3, 0, 0, 0, [8]),
  (12, .ldc 75, 2, 0, 0, -1000000002, []),
  (14, .ireturn, 1, 0, 0, 0, []),
  (15, .aload_n 0, 1, 0, 0, 0, []),
  (16, .getfield 76, 3, 7, 11, 0, []),
  (19, .sipush 240, 3, 0, 0, 240, []),
  (22, .if_icmp .ne 6, 3, 0, 0, 0, [14]),
  (25, .ldc 79, 2, 0, 0, -1000000004, []),
  (27, .ireturn, 1, 0, 0, 0, []),
  (28, .aload_n 0, 1, 0, 0, 0, []),
  (29, .getfield 26, 3, 7, 10, 0, []),
  (32, .aload_n 0, 1, 0, 0, 0, []),
  (33, .getfield 76, 3, 7, 11, 0, []),
  (36, .iload_n 1, 1, 1, 0, 0, []),
  (37, .iastore, 1, 0, 0, 0, []),
  (38, .aload_n 0, 1, 0, 0, 0, []),
  (39, .dup, 1, 0, 0, 0, []),
  (40, .getfield 76, 3, 7, 11, 0, []),
  (43, .iconst 1, 1, 0, 0, 1, []),
  (44, .iadd, 1, 0, 0, 0, []),
  (45, .putfield 76, 3, 7, 11, 0, []),
  (48, .aload_n 0, 1, 0, 0, 0, []),
  (49, .getfield 76, 3, 7, 11, 0, []),
  (52, .ireturn, 1, 0, 0, 0, [])]
theorem gX7_feed : jchk 7 cX7_feed (some .int) 1 25 kX7_feed = true := by decide +kernel
def kX7_letterAt : List jI := [(0, .iload_n 1, 1, 1, 0, 0, []),
  (1, .aload_n 0, 1, 0, 0, 0, []),
  (2, .getfield 76, 3, 7, 11, 0, []),
  (5, .if_icmp .ge 12, 3, 0, 0, 0, [9]),
  (8, .aload_n 0, 1, 0, 0, 0, []),
  (9, .getfield 26, 3, 7, 10, 0, []),
  (12, .iload_n 1, 1, 1, 0, 0, []),
  (13, .iaload, 1, 0, 0, 0, []),
  (14, .goto 4, 3, 0, 0, 0, [10]),
  (17, .iconst (-1), 1, 0, 0, -1, []),
  (18, .ireturn, 1, 0, 0, 0, [])]
theorem gX7_letterAt : jchk 7 cX7_letterAt (some .int) 0 0 kX7_letterAt = true := by decide +kernel
def kX7_here : List jI := [(0, .aload_n 0, 1, 0, 0, 0, []),
  (1, .aload_n 0, 1, 0, 0, 0, []),
  (2, .getfield 80, 3, 7, 12, 0, []),
  (5, .invokevirtual 83, 3, 93, 1, 7, []),
  (8, .bipush 32, 2, 0, 0, 32, []),
  (10, .if_icmp .ne 16, 3, 0, 0, 0, [13]),
  (13, .aload_n 0, 1, 0, 0, 0, []),
  (14, .dup, 1, 0, 0, 0, []),
  (15, .getfield 80, 3, 7, 12, 0, []),
  (18, .iconst 1, 1, 0, 0, 1, []),
  (19, .iadd, 1, 0, 0, 0, []),
  (20, .putfield 80, 3, 7, 12, 0, []),
  (23, .goto (-23), 3, 0, 0, 0, [0]),
  (26, .aload_n 0, 1, 0, 0, 0, []),
  (27, .aload_n 0, 1, 0, 0, 0, []),
  (28, .getfield 80, 3, 7, 12, 0, []),
  (31, .putfield 87, 3, 7, 13, 0, []),
  (34, .aload_n 0, 1, 0, 0, 0, []),
  (35, .aload_n 0, 1, 0, 0, 0, []),
  (36, .getfield 80, 3, 7, 12, 0, []),
  (39, .invokevirtual 83, 3, 93, 1, 7, []),
  (42, .ireturn, 1, 0, 0, 0, [])]
theorem gX7_here : jchk 7 cX7_here (some .int) 1 21 kX7_here = true := by decide +kernel
def kX7_fails : List jI := [(0, .aload_n 0, 1, 0, 0, 0, []),
  (1, .iload_n 1, 1, 1, 0, 0, []),
  (2, .putfield 90, 3, 7, 15, 0, []),
  (5, .aload_n 0, 1, 0, 0, 0, []),
  (6, .iload_n 2, 1, 2, 0, 0, []),
  (7, .putfield 29, 3, 7, 16, 0, []),
  (10, .iconst 0, 1, 0, 0, 0, []),
  (11, .ireturn, 1, 0, 0, 1, [])]
theorem gX7_fails : jchk 7 cX7_fails (some .boolean) 0 0 kX7_fails = true := by decide +kernel
def kX7_takes : List jI := [(0, .aload_n 0, 1, 0, 0, 0, []),
  (1, .invokevirtual 93, 3, 94, 0, 7, []),
  (4, .iload_n 1, 1, 1, 0, 0, []),
  (5, .if_icmp .eq 13, 3, 0, 0, 0, [10]),
  (8, .aload_n 0, 1, 0, 0, 0, []),
  (9, .iconst 1, 1, 0, 0, 1, []),
  (10, .aload_n 0, 1, 0, 0, 0, []),
  (11, .getfield 87, 3, 7, 13, 0, []),
  (14, .invokevirtual 97, 3, 95, 2, 7, []),
  (17, .ireturn, 1, 0, 0, 1, []),
  (18, .aload_n 0, 1, 0, 0, 0, []),
  (19, .dup, 1, 0, 0, 0, []),
  (20, .getfield 80, 3, 7, 12, 0, []),
  (23, .iconst 1, 1, 0, 0, 1, []),
  (24, .iadd, 1, 0, 0, 0, []),
  (25, .putfield 80, 3, 7, 12, 0, []),
  (28, .iconst 1, 1, 0, 0, 1, []),
  (29, .ireturn, 1, 0, 0, 1, [])]
theorem gX7_takes : jchk 7 cX7_takes (some .boolean) 2 41 kX7_takes = true := by decide +kernel
def kX7_takesNumber : List jI := [(0, .aload_n 0, 1, 0, 0, 0, []),
  (1, .invokevirtual 93, 3, 94, 0, 7, []),
  (4, .i2l, 1, 0, 0, 0, []),
  (5, .ldc2_w 101, 3, 0, 0, 48, []),
  (8, .ldc2_w 103, 3, 0, 0, 57, []),
  (11, .invokestatic 63, 3, 84, 3, 0, []),
  (14, .ifCond .ne 13, 3, 0, 0, 0, [13]),
  (17, .aload_n 0, 1, 0, 0, 0, []),
  (18, .iconst 1, 1, 0, 0, 1, []),
  (19, .aload_n 0, 1, 0, 0, 0, []),
  (20, .getfield 87, 3, 7, 13, 0, []),
  (23, .invokevirtual 97, 3, 95, 2, 7, []),
  (26, .ireturn, 1, 0, 0, 1, []),
  (27, .aload_n 0, 1, 0, 0, 0, []),
  (28, .iconst 0, 1, 0, 0, 0, []),
  (29, .putfield 105, 3, 7, 14, 0, []),
  (32, .aload_n 0, 1, 0, 0, 0, []),
  (33, .aload_n 0, 1, 0, 0, 0, []),
  (34, .getfield 80, 3, 7, 12, 0, []),
  (37, .invokevirtual 83, 3, 93, 1, 7, []),
  (40, .i2l, 1, 0, 0, 0, []),
  (41, .ldc2_w 101, 3, 0, 0, 48, []),
  (44, .ldc2_w 103, 3, 0, 0, 57, []),
  (47, .invokestatic 63, 3, 84, 3, 0, []),
  (50, .ifCond .eq 59, 3, 0, 0, 0, [55]),
  (53, .aload_n 0, 1, 0, 0, 0, []),
  (54, .aload_n 0, 1, 0, 0, 0, []),
  (55, .getfield 80, 3, 7, 12, 0, []),
  (58, .aload_n 0, 1, 0, 0, 0, []),
  (59, .getfield 87, 3, 7, 13, 0, []),
  (62, .isub, 1, 0, 0, 0, []),
  (63, .iconst 3, 1, 0, 0, 3, []),
  (64, .if_icmp .ge 25, 3, 0, 0, 0, [45]),
  (67, .bipush 10, 2, 0, 0, 10, []),
  (69, .aload_n 0, 1, 0, 0, 0, []),
  (70, .getfield 105, 3, 7, 14, 0, []),
  (73, .imul, 1, 0, 0, 0, []),
  (74, .aload_n 0, 1, 0, 0, 0, []),
  (75, .aload_n 0, 1, 0, 0, 0, []),
  (76, .getfield 80, 3, 7, 12, 0, []),
  (79, .invokevirtual 83, 3, 93, 1, 7, []),
  (82, .iadd, 1, 0, 0, 0, []),
  (83, .bipush 48, 2, 0, 0, 48, []),
  (85, .isub, 1, 0, 0, 0, []),
  (86, .goto 7, 3, 0, 0, 0, [47]),
  (89, .aload_n 0, 1, 0, 0, 0, []),
  (90, .getfield 105, 3, 7, 14, 0, []),
  (93, .putfield 105, 3, 7, 14, 0, []),
  (96, .aload_n 0, 1, 0, 0, 0, []),
  (97, .dup, 1, 0, 0, 0, []),
  (98, .getfield 80, 3, 7, 12, 0, []),
  (101, .iconst 1, 1, 0, 0, 1, []),
  (102, .iadd, 1, 0, 0, 0, []),
  (103, .putfield 80, 3, 7, 12, 0, []),
  (106, .goto (-74), 3, 0, 0, 0, [16]),
  (109, .aload_n 0, 1, 0, 0, 0, []),
  (110, .getfield 80, 3, 7, 12, 0, []),
  (113, .aload_n 0, 1, 0, 0, 0, []),
  (114, .getfield 87, 3, 7, 13, 0, []),
  (117, .isub, 1, 0, 0, 0, []),
  (118, .iconst 4, 1, 0, 0, 4, []),
  (119, .if_icmp .ge 11, 3, 0, 0, 0, [66]),
  (122, .aload_n 0, 1, 0, 0, 0, []),
  (123, .getfield 105, 3, 7, 14, 0, []),
  (126, .iload_n 1, 1, 1, 0, 0, []),
  (127, .if_icmp .le 15, 3, 0, 0, 0, [72]),
  (130, .aload_n 0, 1, 0, 0, 0, []),
  (131, .iconst 2, 1, 0, 0, 2, []),
  (132, .aload_n 0, 1, 0, 0, 0, []),
  (133, .getfield 87, 3, 7, 13, 0, []),
  (136, .invokevirtual 97, 3, 95, 2, 7, []),
  (139, .ifCond .eq 7, 3, 0, 0, 0, [74]),
  (142, .iconst 1, 1, 0, 0, 1, []),
  (143, .goto 4, 3, 0, 0, 0, [75]),
  (146, .iconst 0, 1, 0, 0, 0, []),
  (147, .ireturn, 1, 0, 0, 1, [])]
theorem gX7_takesNumber : jchk 7 cX7_takesNumber (some .boolean) 2 41 kX7_takesNumber = true := by decide +kernel
def kX7_takesGrand : List jI := [(0, .aload_n 0, 1, 0, 0, 0, []),
  (1, .iconst 1, 1, 0, 0, 1, []),
  (2, .putfield 108, 3, 7, 17, 1, []),
  (5, .aload_n 0, 1, 0, 0, 0, []),
  (6, .sipush 999, 3, 0, 0, 999, []),
  (9, .invokevirtual 111, 3, 97, 1, 7, []),
  (12, .ifCond .ne 5, 3, 0, 0, 0, [9]),
  (15, .iconst 0, 1, 0, 0, 0, []),
  (16, .ireturn, 1, 0, 0, 1, []),
  (17, .aload_n 0, 1, 0, 0, 0, []),
  (18, .aload_n 0, 1, 0, 0, 0, []),
  (19, .getfield 105, 3, 7, 14, 0, []),
  (22, .putfield 115, 3, 7, 18, 0, []),
  (25, .iconst 1, 1, 0, 0, 1, []),
  (26, .ireturn, 1, 0, 0, 1, [])]
theorem gX7_takesGrand : jchk 7 cX7_takesGrand (some .boolean) 3 62 kX7_takesGrand = true := by decide +kernel
def kX7_takesPerson : List jI := [(0, .iconst 0, 1, 0, 0, 0, []),
  (1, .istore_n 1, 1, 1, 0, 0, []),
  (2, .iload_n 1, 1, 1, 0, 0, []),
  (3, .iconst 3, 1, 0, 0, 3, []),
  (4, .if_icmp .ge 55, 3, 0, 0, 0, [33]),
  (7, .aload_n 0, 1, 0, 0, 0, []),
  (8, .iload_n 1, 1, 1, 0, 0, []),
  (9, .ifCond .ne 9, 3, 0, 0, 0, [10]),
  (12, .sipush 999, 3, 0, 0, 999, []),
  (15, .goto 13, 3, 0, 0, 0, [16]),
  (18, .iload_n 1, 1, 1, 0, 0, []),
  (19, .iconst 1, 1, 0, 0, 1, []),
  (20, .if_icmp .ne 7, 3, 0, 0, 0, [15]),
  (23, .iconst 3, 1, 0, 0, 3, []),
  (24, .goto 4, 3, 0, 0, 0, [16]),
  (27, .iconst 2, 1, 0, 0, 2, []),
  (28, .invokevirtual 111, 3, 97, 1, 7, []),
  (31, .ifCond .ne 5, 3, 0, 0, 0, [20]),
  (34, .iconst 0, 1, 0, 0, 0, []),
  (35, .ireturn, 1, 0, 0, 1, []),
  (36, .aload_n 0, 1, 0, 0, 0, []),
  (37, .getfield 33, 3, 7, 20, 0, []),
  (40, .iconst 3, 1, 0, 0, 3, []),
  (41, .aload_n 0, 1, 0, 0, 0, []),
  (42, .getfield 118, 3, 7, 19, 0, []),
  (45, .imul, 1, 0, 0, 0, []),
  (46, .iload_n 1, 1, 1, 0, 0, []),
  (47, .iadd, 1, 0, 0, 0, []),
  (48, .aload_n 0, 1, 0, 0, 0, []),
  (49, .getfield 105, 3, 7, 14, 0, []),
  (52, .iastore, 1, 0, 0, 0, []),
  (53, .iinc 1 1, 3, 1, 0, 1, []),
  (56, .goto (-54), 3, 0, 0, 0, [2]),
  (59, .aload_n 0, 1, 0, 0, 0, []),
  (60, .dup, 1, 0, 0, 0, []),
  (61, .getfield 118, 3, 7, 19, 0, []),
  (64, .iconst 1, 1, 0, 0, 1, []),
  (65, .iadd, 1, 0, 0, 0, []),
  (66, .putfield 118, 3, 7, 19, 0, []),
  (69, .iconst 1, 1, 0, 0, 1, []),
  (70, .ireturn, 1, 0, 0, 1, [])]
theorem gX7_takesPerson : jchk 7 cX7_takesPerson (some .boolean) 3 62 kX7_takesPerson = true := by decide +kernel
end
section
/-! THE CODE of the methods, with what each instruction needs; checked against the bytes -/
def kX7_takesPaper : List jI := [(0, .iconst 0, 1, 0, 0, 0, []),
  (1, .istore_n 1, 1, 1, 0, 0, []),
  (2, .iload_n 1, 1, 1, 0, 0, []),
  (3, .iconst 2, 1, 0, 0, 2, []),
  (4, .if_icmp .ge 51, 3, 0, 0, 0, [31]),
  (7, .aload_n 0, 1, 0, 0, 0, []),
  (8, .iload_n 1, 1, 1, 0, 0, []),
  (9, .ifCond .ne 12, 3, 0, 0, 0, [13]),
  (12, .aload_n 0, 1, 0, 0, 0, []),
  (13, .getfield 118, 3, 7, 19, 0, []),
  (16, .iconst 1, 1, 0, 0, 1, []),
  (17, .isub, 1, 0, 0, 0, []),
  (18, .goto 6, 3, 0, 0, 0, [14]),
  (21, .sipush 999, 3, 0, 0, 999, []),
  (24, .invokevirtual 111, 3, 97, 1, 7, []),
  (27, .ifCond .ne 5, 3, 0, 0, 0, [18]),
  (30, .iconst 0, 1, 0, 0, 0, []),
  (31, .ireturn, 1, 0, 0, 1, []),
  (32, .aload_n 0, 1, 0, 0, 0, []),
  (33, .getfield 36, 3, 7, 22, 0, []),
  (36, .iconst 2, 1, 0, 0, 2, []),
  (37, .aload_n 0, 1, 0, 0, 0, []),
  (38, .getfield 121, 3, 7, 21, 0, []),
  (41, .imul, 1, 0, 0, 0, []),
  (42, .iload_n 1, 1, 1, 0, 0, []),
  (43, .iadd, 1, 0, 0, 0, []),
  (44, .aload_n 0, 1, 0, 0, 0, []),
  (45, .getfield 105, 3, 7, 14, 0, []),
  (48, .iastore, 1, 0, 0, 0, []),
  (49, .iinc 1 1, 3, 1, 0, 1, []),
  (52, .goto (-50), 3, 0, 0, 0, [2]),
  (55, .aload_n 0, 1, 0, 0, 0, []),
  (56, .dup, 1, 0, 0, 0, []),
  (57, .getfield 121, 3, 7, 21, 0, []),
  (60, .iconst 1, 1, 0, 0, 1, []),
  (61, .iadd, 1, 0, 0, 0, []),
  (62, .putfield 121, 3, 7, 21, 0, []),
  (65, .iconst 1, 1, 0, 0, 1, []),
  (66, .ireturn, 1, 0, 0, 1, [])]
theorem gX7_takesPaper : jchk 7 cX7_takesPaper (some .boolean) 3 62 kX7_takesPaper = true := by decide +kernel
def kX7_takesCandidate : List jI := [(0, .aload_n 0, 1, 0, 0, 0, []),
  (1, .sipush 999, 3, 0, 0, 999, []),
  (4, .invokevirtual 111, 3, 97, 1, 7, []),
  (7, .ifCond .ne 5, 3, 0, 0, 0, [6]),
  (10, .iconst 0, 1, 0, 0, 0, []),
  (11, .ireturn, 1, 0, 0, 1, []),
  (12, .aload_n 0, 1, 0, 0, 0, []),
  (13, .getfield 39, 3, 7, 24, 0, []),
  (16, .aload_n 0, 1, 0, 0, 0, []),
  (17, .getfield 124, 3, 7, 23, 0, []),
  (20, .aload_n 0, 1, 0, 0, 0, []),
  (21, .getfield 105, 3, 7, 14, 0, []),
  (24, .iastore, 1, 0, 0, 0, []),
  (25, .aload_n 0, 1, 0, 0, 0, []),
  (26, .dup, 1, 0, 0, 0, []),
  (27, .getfield 124, 3, 7, 23, 0, []),
  (30, .iconst 1, 1, 0, 0, 1, []),
  (31, .iadd, 1, 0, 0, 0, []),
  (32, .putfield 124, 3, 7, 23, 0, []),
  (35, .iconst 1, 1, 0, 0, 1, []),
  (36, .ireturn, 1, 0, 0, 1, [])]
theorem gX7_takesCandidate : jchk 7 cX7_takesCandidate (some .boolean) 3 62 kX7_takesCandidate = true := by decide +kernel
def kX7_takesClause : List jI := [(0, .aload_n 0, 1, 0, 0, 0, []),
  (1, .invokevirtual 93, 3, 94, 0, 7, []),
  (4, .istore_n 1, 1, 1, 0, 0, []),
  (5, .iload_n 1, 1, 1, 0, 0, []),
  (6, .bipush 120, 2, 0, 0, 120, []),
  (8, .if_icmp .eq 28, 3, 0, 0, 0, [18]),
  (11, .aload_n 0, 1, 0, 0, 0, []),
  (12, .getfield 108, 3, 7, 17, 0, []),
  (15, .ifCond .eq 25, 3, 0, 0, 0, [20]),
  (18, .iload_n 1, 1, 1, 0, 0, []),
  (19, .bipush 112, 2, 0, 0, 112, []),
  (21, .if_icmp .eq 15, 3, 0, 0, 0, [18]),
  (24, .iload_n 1, 1, 1, 0, 0, []),
  (25, .bipush 115, 2, 0, 0, 115, []),
  (27, .if_icmp .eq 9, 3, 0, 0, 0, [18]),
  (30, .iload_n 1, 1, 1, 0, 0, []),
  (31, .bipush 99, 2, 0, 0, 99, []),
  (33, .if_icmp .ne 7, 3, 0, 0, 0, [20]),
  (36, .iconst 1, 1, 0, 0, 1, []),
  (37, .goto 4, 3, 0, 0, 0, [21]),
  (40, .iconst 0, 1, 0, 0, 0, []),
  (41, .istore_n 2, 1, 2, 0, 0, []),
  (42, .iload_n 2, 1, 2, 0, 0, []),
  (43, .ifCond .ne 13, 3, 0, 0, 0, [30]),
  (46, .aload_n 0, 1, 0, 0, 0, []),
  (47, .iconst 1, 1, 0, 0, 1, []),
  (48, .aload_n 0, 1, 0, 0, 0, []),
  (49, .getfield 87, 3, 7, 13, 0, []),
  (52, .invokevirtual 97, 3, 95, 2, 7, []),
  (55, .ireturn, 1, 0, 0, 1, []),
  (56, .iload_n 1, 1, 1, 0, 0, []),
  (57, .bipush 120, 2, 0, 0, 120, []),
  (59, .if_icmp .ne 10, 3, 0, 0, 0, [36]),
  (62, .aload_n 0, 1, 0, 0, 0, []),
  (63, .getfield 108, 3, 7, 17, 0, []),
  (66, .goto 62, 3, 0, 0, 0, [65]),
  (69, .iload_n 1, 1, 1, 0, 0, []),
  (70, .bipush 112, 2, 0, 0, 112, []),
  (72, .if_icmp .ne 20, 3, 0, 0, 0, [47]),
  (75, .aload_n 0, 1, 0, 0, 0, []),
  (76, .getfield 118, 3, 7, 19, 0, []),
  (79, .bipush 8, 2, 0, 0, 8, []),
  (81, .if_icmp .ne 7, 3, 0, 0, 0, [45]),
  (84, .iconst 1, 1, 0, 0, 1, []),
  (85, .goto 43, 3, 0, 0, 0, [65]),
  (88, .iconst 0, 1, 0, 0, 0, []),
  (89, .goto 39, 3, 0, 0, 0, [65]),
  (92, .iload_n 1, 1, 1, 0, 0, []),
  (93, .bipush 115, 2, 0, 0, 115, []),
  (95, .if_icmp .ne 20, 3, 0, 0, 0, [58]),
  (98, .aload_n 0, 1, 0, 0, 0, []),
  (99, .getfield 121, 3, 7, 21, 0, []),
  (102, .bipush 8, 2, 0, 0, 8, []),
  (104, .if_icmp .ne 7, 3, 0, 0, 0, [56]),
  (107, .iconst 1, 1, 0, 0, 1, []),
  (108, .goto 20, 3, 0, 0, 0, [65]),
  (111, .iconst 0, 1, 0, 0, 0, []),
  (112, .goto 16, 3, 0, 0, 0, [65]),
  (115, .aload_n 0, 1, 0, 0, 0, []),
  (116, .getfield 124, 3, 7, 23, 0, []),
  (119, .iconst 4, 1, 0, 0, 4, []),
  (120, .if_icmp .ne 7, 3, 0, 0, 0, [64]),
  (123, .iconst 1, 1, 0, 0, 1, []),
  (124, .goto 4, 3, 0, 0, 0, [65]),
  (127, .iconst 0, 1, 0, 0, 0, []),
  (128, .istore_n 3, 1, 3, 0, 0, []),
  (129, .iload_n 3, 1, 3, 0, 0, []),
  (130, .ifCond .eq 13, 3, 0, 0, 0, [74]),
  (133, .aload_n 0, 1, 0, 0, 0, []),
  (134, .iconst 3, 1, 0, 0, 3, []),
  (135, .aload_n 0, 1, 0, 0, 0, []),
  (136, .getfield 87, 3, 7, 13, 0, []),
  (139, .invokevirtual 97, 3, 95, 2, 7, []),
  (142, .ireturn, 1, 0, 0, 1, []),
  (143, .aload_n 0, 1, 0, 0, 0, []),
  (144, .dup, 1, 0, 0, 0, []),
  (145, .getfield 80, 3, 7, 12, 0, []),
  (148, .iconst 1, 1, 0, 0, 1, []),
  (149, .iadd, 1, 0, 0, 0, []),
  (150, .putfield 80, 3, 7, 12, 0, []),
  (153, .iload_n 1, 1, 1, 0, 0, []),
  (154, .bipush 120, 2, 0, 0, 120, []),
  (156, .if_icmp .ne 10, 3, 0, 0, 0, [86]),
  (159, .aload_n 0, 1, 0, 0, 0, []),
  (160, .invokevirtual 127, 3, 98, 0, 7, []),
  (163, .goto 33, 3, 0, 0, 0, [100]),
  (166, .iload_n 1, 1, 1, 0, 0, []),
  (167, .bipush 112, 2, 0, 0, 112, []),
  (169, .if_icmp .ne 10, 3, 0, 0, 0, [92]),
  (172, .aload_n 0, 1, 0, 0, 0, []),
  (173, .invokevirtual 131, 3, 99, 0, 7, []),
  (176, .goto 20, 3, 0, 0, 0, [100]),
  (179, .iload_n 1, 1, 1, 0, 0, []),
  (180, .bipush 115, 2, 0, 0, 115, []),
  (182, .if_icmp .ne 10, 3, 0, 0, 0, [98]),
  (185, .aload_n 0, 1, 0, 0, 0, []),
  (186, .invokevirtual 134, 3, 100, 0, 7, []),
  (189, .goto 7, 3, 0, 0, 0, [100]),
  (192, .aload_n 0, 1, 0, 0, 0, []),
  (193, .invokevirtual 137, 3, 101, 0, 7, []),
  (196, .istore 4, 2, 4, 0, 0, []),
  (198, .iload 4, 2, 4, 0, 0, []),
  (200, .ifCond .eq 16, 3, 0, 0, 0, [109]),
  (203, .aload_n 0, 1, 0, 0, 0, []),
  (204, .bipush 59, 2, 0, 0, 59, []),
  (206, .invokevirtual 140, 3, 96, 1, 7, []),
  (209, .ifCond .eq 7, 3, 0, 0, 0, [109]),
  (212, .iconst 1, 1, 0, 0, 1, []),
  (213, .goto 4, 3, 0, 0, 0, [110]),
  (216, .iconst 0, 1, 0, 0, 0, []),
  (217, .ireturn, 1, 0, 0, 1, [])]
theorem gX7_takesClause : jchk 7 cX7_takesClause (some .boolean) 4 83 kX7_takesClause = true := by decide +kernel
def kX7_clan : List jI := [(0, .aload_n 0, 1, 0, 0, 0, []),
  (1, .iconst 0, 1, 0, 0, 0, []),
  (2, .putfield 80, 3, 7, 12, 0, []),
  (5, .aload_n 0, 1, 0, 0, 0, []),
  (6, .iconst 0, 1, 0, 0, 0, []),
  (7, .putfield 90, 3, 7, 15, 0, []),
  (10, .aload_n 0, 1, 0, 0, 0, []),
  (11, .iconst (-1), 1, 0, 0, -1, []),
  (12, .putfield 29, 3, 7, 16, 0, []),
  (15, .aload_n 0, 1, 0, 0, 0, []),
  (16, .iconst 0, 1, 0, 0, 0, []),
  (17, .putfield 108, 3, 7, 17, 1, []),
  (20, .aload_n 0, 1, 0, 0, 0, []),
  (21, .iconst 0, 1, 0, 0, 0, []),
  (22, .putfield 115, 3, 7, 18, 0, []),
  (25, .aload_n 0, 1, 0, 0, 0, []),
  (26, .iconst 0, 1, 0, 0, 0, []),
  (27, .putfield 118, 3, 7, 19, 0, []),
  (30, .aload_n 0, 1, 0, 0, 0, []),
  (31, .iconst 0, 1, 0, 0, 0, []),
  (32, .putfield 121, 3, 7, 21, 0, []),
  (35, .aload_n 0, 1, 0, 0, 0, []),
  (36, .iconst 0, 1, 0, 0, 0, []),
  (37, .putfield 124, 3, 7, 23, 0, []),
  (40, .iconst 1, 1, 0, 0, 1, []),
  (41, .istore_n 1, 1, 1, 0, 0, []),
  (42, .iload_n 1, 1, 1, 0, 0, []),
  (43, .ifCond .eq 19, 3, 0, 0, 0, [36]),
  (46, .aload_n 0, 1, 0, 0, 0, []),
  (47, .invokevirtual 93, 3, 94, 0, 7, []),
  (50, .iconst (-1), 1, 0, 0, -1, []),
  (51, .if_icmp .eq 11, 3, 0, 0, 0, [36]),
  (54, .aload_n 0, 1, 0, 0, 0, []),
  (55, .invokevirtual 143, 3, 102, 0, 7, []),
  (58, .istore_n 1, 1, 1, 0, 0, []),
  (59, .goto (-17), 3, 0, 0, 0, [26]),
  (62, .aload_n 0, 1, 0, 0, 0, []),
  (63, .iconst 0, 1, 0, 0, 0, []),
  (64, .putfield 76, 3, 7, 11, 0, []),
  (67, .iload_n 1, 1, 1, 0, 0, []),
  (68, .ifCond .ne 11, 3, 0, 0, 0, [46]),
  (71, .bipush (-10), 2, 0, 0, -10, []),
  (73, .aload_n 0, 1, 0, 0, 0, []),
  (74, .getfield 90, 3, 7, 15, 0, []),
  (77, .isub, 1, 0, 0, 0, []),
  (78, .ireturn, 1, 0, 0, 0, []),
  (79, .aload_n 0, 1, 0, 0, 0, []),
  (80, .getfield 7, 3, 7, 0, 0, []),
  (83, .bipush 26, 2, 0, 0, 26, []),
  (85, .iaload, 1, 0, 0, 0, []),
  (86, .istore_n 2, 1, 2, 0, 0, []),
  (87, .iconst 0, 1, 0, 0, 0, []),
  (88, .istore_n 3, 1, 3, 0, 0, []),
  (89, .iload_n 3, 1, 3, 0, 0, []),
  (90, .bipush 27, 2, 0, 0, 27, []),
  (92, .if_icmp .ge 16, 3, 0, 0, 0, [63]),
  (95, .aload_n 0, 1, 0, 0, 0, []),
  (96, .getfield 7, 3, 7, 0, 0, []),
  (99, .iload_n 3, 1, 3, 0, 0, []),
  (100, .iconst 0, 1, 0, 0, 0, []),
  (101, .iastore, 1, 0, 0, 0, []),
  (102, .iinc 3 1, 3, 3, 0, 1, []),
  (105, .goto (-16), 3, 0, 0, 0, [53]),
  (108, .aload_n 0, 1, 0, 0, 0, []),
  (109, .getfield 7, 3, 7, 0, 0, []),
  (112, .bipush 26, 2, 0, 0, 26, []),
  (114, .iload_n 2, 1, 2, 0, 0, []),
  (115, .iastore, 1, 0, 0, 0, []),
  (116, .aload_n 0, 1, 0, 0, 0, []),
  (117, .aload_n 0, 1, 0, 0, 0, []),
  (118, .getfield 108, 3, 7, 17, 0, []),
  (121, .putfield 57, 3, 7, 3, 1, []),
  (124, .aload_n 0, 1, 0, 0, 0, []),
  (125, .aload_n 0, 1, 0, 0, 0, []),
  (126, .getfield 115, 3, 7, 18, 0, []),
  (129, .putfield 146, 3, 7, 4, 0, []),
  (132, .aload_n 0, 1, 0, 0, 0, []),
  (133, .aload_n 0, 1, 0, 0, 0, []),
  (134, .getfield 118, 3, 7, 19, 0, []),
  (137, .putfield 67, 3, 7, 5, 0, []),
  (140, .aload_n 0, 1, 0, 0, 0, []),
  (141, .aload_n 0, 1, 0, 0, 0, []),
  (142, .getfield 124, 3, 7, 23, 0, []),
  (145, .putfield 70, 3, 7, 8, 0, []),
  (148, .aload_n 0, 1, 0, 0, 0, []),
  (149, .getfield 7, 3, 7, 0, 0, []),
  (152, .iconst 1, 1, 0, 0, 1, []),
  (153, .aload_n 0, 1, 0, 0, 0, []),
  (154, .getfield 121, 3, 7, 21, 0, []),
  (157, .iastore, 1, 0, 0, 0, []),
  (158, .iconst 0, 1, 0, 0, 0, []),
  (159, .istore_n 3, 1, 3, 0, 0, []),
  (160, .iload_n 3, 1, 3, 0, 0, []),
  (161, .aload_n 0, 1, 0, 0, 0, []),
  (162, .getfield 67, 3, 7, 5, 0, []),
  (165, .if_icmp .ge 57, 3, 0, 0, 0, [134]),
  (168, .aload_n 0, 1, 0, 0, 0, []),
  (169, .getfield 7, 3, 7, 0, 0, []),
  (172, .iconst 2, 1, 0, 0, 2, []),
  (173, .iload_n 3, 1, 3, 0, 0, []),
  (174, .iadd, 1, 0, 0, 0, []),
  (175, .aload_n 0, 1, 0, 0, 0, []),
  (176, .getfield 33, 3, 7, 20, 0, []),
  (179, .iconst 3, 1, 0, 0, 3, []),
  (180, .iload_n 3, 1, 3, 0, 0, []),
  (181, .imul, 1, 0, 0, 0, []),
  (182, .iaload, 1, 0, 0, 0, []),
  (183, .iastore, 1, 0, 0, 0, []),
  (184, .aload_n 0, 1, 0, 0, 0, []),
  (185, .getfield 17, 3, 7, 6, 0, []),
  (188, .iload_n 3, 1, 3, 0, 0, []),
  (189, .aload_n 0, 1, 0, 0, 0, []),
  (190, .getfield 33, 3, 7, 20, 0, []),
  (193, .iconst 3, 1, 0, 0, 3, []),
  (194, .iload_n 3, 1, 3, 0, 0, []),
  (195, .imul, 1, 0, 0, 0, []),
  (196, .iconst 1, 1, 0, 0, 1, []),
  (197, .iadd, 1, 0, 0, 0, []),
  (198, .iaload, 1, 0, 0, 0, []),
  (199, .iastore, 1, 0, 0, 0, []),
  (200, .aload_n 0, 1, 0, 0, 0, []),
  (201, .getfield 20, 3, 7, 7, 0, []),
  (204, .iload_n 3, 1, 3, 0, 0, []),
  (205, .aload_n 0, 1, 0, 0, 0, []),
  (206, .getfield 33, 3, 7, 20, 0, []),
  (209, .iconst 3, 1, 0, 0, 3, []),
  (210, .iload_n 3, 1, 3, 0, 0, []),
  (211, .imul, 1, 0, 0, 0, []),
  (212, .iconst 2, 1, 0, 0, 2, []),
  (213, .iadd, 1, 0, 0, 0, []),
  (214, .iaload, 1, 0, 0, 0, []),
  (215, .iastore, 1, 0, 0, 0, []),
  (216, .iinc 3 1, 3, 3, 0, 1, []),
  (219, .goto (-59), 3, 0, 0, 0, [92]),
  (222, .iconst 0, 1, 0, 0, 0, []),
  (223, .istore_n 3, 1, 3, 0, 0, []),
  (224, .iload_n 3, 1, 3, 0, 0, []),
  (225, .aload_n 0, 1, 0, 0, 0, []),
  (226, .getfield 121, 3, 7, 21, 0, []),
  (229, .if_icmp .ge 45, 3, 0, 0, 0, [168]),
  (232, .aload_n 0, 1, 0, 0, 0, []),
  (233, .getfield 7, 3, 7, 0, 0, []),
  (236, .bipush 18, 2, 0, 0, 18, []),
  (238, .iload_n 3, 1, 3, 0, 0, []),
  (239, .iadd, 1, 0, 0, 0, []),
  (240, .aload_n 0, 1, 0, 0, 0, []),
  (241, .getfield 36, 3, 7, 22, 0, []),
  (244, .iconst 2, 1, 0, 0, 2, []),
  (245, .iload_n 3, 1, 3, 0, 0, []),
  (246, .imul, 1, 0, 0, 0, []),
  (247, .iaload, 1, 0, 0, 0, []),
  (248, .iastore, 1, 0, 0, 0, []),
  (249, .aload_n 0, 1, 0, 0, 0, []),
  (250, .getfield 7, 3, 7, 0, 0, []),
  (253, .bipush 10, 2, 0, 0, 10, []),
  (255, .iload_n 3, 1, 3, 0, 0, []),
  (256, .iadd, 1, 0, 0, 0, []),
  (257, .aload_n 0, 1, 0, 0, 0, []),
  (258, .getfield 36, 3, 7, 22, 0, []),
  (261, .iconst 2, 1, 0, 0, 2, []),
  (262, .iload_n 3, 1, 3, 0, 0, []),
  (263, .imul, 1, 0, 0, 0, []),
  (264, .iconst 1, 1, 0, 0, 1, []),
  (265, .iadd, 1, 0, 0, 0, []),
  (266, .iaload, 1, 0, 0, 0, []),
  (267, .iastore, 1, 0, 0, 0, []),
  (268, .iinc 3 1, 3, 3, 0, 1, []),
  (271, .goto (-47), 3, 0, 0, 0, [136]),
  (274, .iconst 0, 1, 0, 0, 0, []),
  (275, .istore_n 3, 1, 3, 0, 0, []),
  (276, .iload_n 3, 1, 3, 0, 0, []),
  (277, .aload_n 0, 1, 0, 0, 0, []),
  (278, .getfield 70, 3, 7, 8, 0, []),
  (281, .if_icmp .ge 21, 3, 0, 0, 0, [184]),
  (284, .aload_n 0, 1, 0, 0, 0, []),
  (285, .getfield 23, 3, 7, 9, 0, []),
  (288, .iload_n 3, 1, 3, 0, 0, []),
  (289, .aload_n 0, 1, 0, 0, 0, []),
  (290, .getfield 39, 3, 7, 24, 0, []),
  (293, .iload_n 3, 1, 3, 0, 0, []),
  (294, .iaload, 1, 0, 0, 0, []),
  (295, .iastore, 1, 0, 0, 0, []),
  (296, .iinc 3 1, 3, 3, 0, 1, []),
  (299, .goto (-23), 3, 0, 0, 0, [170]),
  (302, .aload_n 0, 1, 0, 0, 0, []),
  (303, .iconst 0, 1, 0, 0, 0, []),
  (304, .putfield 149, 3, 7, 27, 0, []),
  (307, .aload_n 0, 1, 0, 0, 0, []),
  (308, .iconst 0, 1, 0, 0, 0, []),
  (309, .putfield 152, 3, 7, 29, 0, []),
  (312, .aload_n 0, 1, 0, 0, 0, []),
  (313, .iconst 0, 1, 0, 0, 0, []),
  (314, .putfield 155, 3, 7, 2, 0, []),
  (317, .aload_n 0, 1, 0, 0, 0, []),
  (318, .getfield 13, 3, 7, 1, 0, []),
  (321, .iconst 0, 1, 0, 0, 0, []),
  (322, .iconst 0, 1, 0, 0, 0, []),
  (323, .bastore, 1, 0, 0, 0, []),
  (324, .aload_n 0, 1, 0, 0, 0, []),
  (325, .getfield 13, 3, 7, 1, 0, []),
  (328, .iconst 1, 1, 0, 0, 1, []),
  (329, .iconst 0, 1, 0, 0, 0, []),
  (330, .bastore, 1, 0, 0, 0, []),
  (331, .aload_n 0, 1, 0, 0, 0, []),
  (332, .getfield 67, 3, 7, 5, 0, []),
  (335, .ireturn, 1, 0, 0, 0, [])]
theorem gX7_clan : jchk 7 cX7_clan (some .int) 5 107 kX7_clan = true := by decide +kernel
def kX7_fault : List jI := [(0, .aload_n 0, 1, 0, 0, 0, []),
  (1, .getfield 29, 3, 7, 16, 0, []),
  (4, .ireturn, 1, 0, 0, 0, [])]
theorem gX7_fault : jchk 7 cX7_fault (some .int) 0 0 kX7_fault = true := by decide +kernel
def kX7_told : List jI := [(0, .iload_n 1, 1, 1, 0, 0, []),
  (1, .tableswitch 117 0 9 #[55, 68, 73, 78, 85, 90, 95, 102, 107, 112], 55, 0, 0, 0, [40, 2, 9, 12, 15, 20, 23, 26, 31, 34, 37]),
  (56, .aload_n 0, 1, 0, 0, 0, []),
  (57, .getfield 57, 3, 7, 3, 0, []),
  (60, .ifCond .eq 7, 3, 0, 0, 0, [7]),
  (63, .iconst 1, 1, 0, 0, 1, []),
  (64, .goto 4, 3, 0, 0, 0, [8]),
  (67, .iconst 0, 1, 0, 0, 0, []),
  (68, .ireturn, 1, 0, 0, 0, []),
  (69, .aload_n 0, 1, 0, 0, 0, []),
  (70, .getfield 146, 3, 7, 4, 0, []),
  (73, .ireturn, 1, 0, 0, 0, []),
  (74, .aload_n 0, 1, 0, 0, 0, []),
  (75, .getfield 67, 3, 7, 5, 0, []),
  (78, .ireturn, 1, 0, 0, 0, []),
  (79, .aload_n 0, 1, 0, 0, 0, []),
  (80, .getfield 7, 3, 7, 0, 0, []),
  (83, .iconst 1, 1, 0, 0, 1, []),
  (84, .iaload, 1, 0, 0, 0, []),
  (85, .ireturn, 1, 0, 0, 0, []),
  (86, .aload_n 0, 1, 0, 0, 0, []),
  (87, .getfield 70, 3, 7, 8, 0, []),
  (90, .ireturn, 1, 0, 0, 0, []),
  (91, .aload_n 0, 1, 0, 0, 0, []),
  (92, .getfield 76, 3, 7, 11, 0, []),
  (95, .ireturn, 1, 0, 0, 0, []),
  (96, .aload_n 0, 1, 0, 0, 0, []),
  (97, .getfield 7, 3, 7, 0, 0, []),
  (100, .iconst 0, 1, 0, 0, 0, []),
  (101, .iaload, 1, 0, 0, 0, []),
  (102, .ireturn, 1, 0, 0, 0, []),
  (103, .aload_n 0, 1, 0, 0, 0, []),
  (104, .getfield 149, 3, 7, 27, 0, []),
  (107, .ireturn, 1, 0, 0, 0, []),
  (108, .aload_n 0, 1, 0, 0, 0, []),
  (109, .getfield 152, 3, 7, 29, 0, []),
  (112, .ireturn, 1, 0, 0, 0, []),
  (113, .aload_n 0, 1, 0, 0, 0, []),
  (114, .getfield 155, 3, 7, 2, 0, []),
  (117, .ireturn, 1, 0, 0, 0, []),
  (118, .ldc 75, 2, 0, 0, -1000000002, []),
  (120, .ireturn, 1, 0, 0, 0, [])]
theorem gX7_told : jchk 7 cX7_told (some .int) 0 0 kX7_told = true := by decide +kernel
def kX7_partOf : List jI := [(0, .iload_n 1, 1, 1, 0, 0, []),
  (1, .ifCond .ne 10, 3, 0, 0, 0, [6]),
  (4, .iload_n 0, 1, 0, 0, 0, []),
  (5, .bipush 100, 2, 0, 0, 100, []),
  (7, .idiv, 1, 0, 0, 0, []),
  (8, .goto 22, 3, 0, 0, 0, [18]),
  (11, .iload_n 1, 1, 1, 0, 0, []),
  (12, .iconst 1, 1, 0, 0, 1, []),
  (13, .if_icmp .ne 13, 3, 0, 0, 0, [15]),
  (16, .iload_n 0, 1, 0, 0, 0, []),
  (17, .bipush 10, 2, 0, 0, 10, []),
  (19, .idiv, 1, 0, 0, 0, []),
  (20, .bipush 10, 2, 0, 0, 10, []),
  (22, .irem, 1, 0, 0, 0, []),
  (23, .goto 7, 3, 0, 0, 0, [18]),
  (26, .iload_n 0, 1, 0, 0, 0, []),
  (27, .bipush 10, 2, 0, 0, 10, []),
  (29, .irem, 1, 0, 0, 0, []),
  (30, .ireturn, 1, 0, 0, 0, [])]
theorem gX7_partOf : jchk 7 cX7_partOf (some .int) 0 0 kX7_partOf = true := by decide +kernel
def kX7_off : List jI := [(0, .iload_n 0, 1, 0, 0, 0, []),
  (1, .iload_n 1, 1, 1, 0, 0, []),
  (2, .if_icmp .ge 9, 3, 0, 0, 0, [7]),
  (5, .iload_n 1, 1, 1, 0, 0, []),
  (6, .iload_n 0, 1, 0, 0, 0, []),
  (7, .isub, 1, 0, 0, 0, []),
  (8, .goto 6, 3, 0, 0, 0, [10]),
  (11, .iload_n 0, 1, 0, 0, 0, []),
  (12, .iload_n 1, 1, 1, 0, 0, []),
  (13, .isub, 1, 0, 0, 0, []),
  (14, .ireturn, 1, 0, 0, 0, [])]
theorem gX7_off : jchk 7 cX7_off (some .int) 0 0 kX7_off = true := by decide +kernel
def kX7_apart : List jI := [(0, .iconst 0, 1, 0, 0, 0, []),
  (1, .istore_n 2, 1, 2, 0, 0, []),
  (2, .iconst 0, 1, 0, 0, 0, []),
  (3, .istore_n 3, 1, 3, 0, 0, []),
  (4, .iload_n 3, 1, 3, 0, 0, []),
  (5, .iconst 3, 1, 0, 0, 3, []),
  (6, .if_icmp .ge 25, 3, 0, 0, 0, [19]),
  (9, .iload_n 2, 1, 2, 0, 0, []),
  (10, .iload_n 0, 1, 0, 0, 0, []),
  (11, .iload_n 3, 1, 3, 0, 0, []),
  (12, .invokestatic 158, 3, 106, 2, 0, []),
  (15, .iload_n 1, 1, 1, 0, 0, []),
  (16, .iload_n 3, 1, 3, 0, 0, []),
  (17, .invokestatic 158, 3, 106, 2, 0, []),
  (20, .invokestatic 162, 3, 107, 2, 0, []),
  (23, .iadd, 1, 0, 0, 0, []),
  (24, .istore_n 2, 1, 2, 0, 0, []),
  (25, .iinc 3 1, 3, 3, 0, 1, []),
  (28, .goto (-24), 3, 0, 0, 0, [4]),
  (31, .iload_n 2, 1, 2, 0, 0, []),
  (32, .ireturn, 1, 0, 0, 0, [])]
theorem gX7_apart : jchk 7 cX7_apart (some .int) 1 21 kX7_apart = true := by decide +kernel
def kX7_isNear : List jI := [(0, .iconst 1, 1, 0, 0, 1, []),
  (1, .istore_n 3, 1, 3, 0, 0, []),
  (2, .iconst 0, 1, 0, 0, 0, []),
  (3, .istore 4, 2, 4, 0, 0, []),
  (5, .iload 4, 2, 4, 0, 0, []),
  (7, .iconst 3, 1, 0, 0, 3, []),
  (8, .if_icmp .ge 38, 3, 0, 0, 0, [24]),
  (11, .iload_n 3, 1, 3, 0, 0, []),
  (12, .ifCond .eq 26, 3, 0, 0, 0, [20]),
  (15, .iload_n 0, 1, 0, 0, 0, []),
  (16, .iload 4, 2, 4, 0, 0, []),
  (18, .invokestatic 158, 3, 106, 2, 0, []),
  (21, .iload_n 1, 1, 1, 0, 0, []),
  (22, .iload 4, 2, 4, 0, 0, []),
  (24, .invokestatic 158, 3, 106, 2, 0, []),
  (27, .invokestatic 162, 3, 107, 2, 0, []),
  (30, .iload_n 2, 1, 2, 0, 0, []),
  (31, .if_icmp .gt 7, 3, 0, 0, 0, [20]),
  (34, .iconst 1, 1, 0, 0, 1, []),
  (35, .goto 4, 3, 0, 0, 0, [21]),
  (38, .iconst 0, 1, 0, 0, 0, []),
  (39, .istore_n 3, 1, 3, 0, 0, []),
  (40, .iinc 4 1, 3, 4, 0, 1, []),
  (43, .goto (-38), 3, 0, 0, 0, [4]),
  (46, .iload_n 3, 1, 3, 0, 0, []),
  (47, .ireturn, 1, 0, 0, 1, [])]
theorem gX7_isNear : jchk 7 cX7_isNear (some .boolean) 1 21 kX7_isNear = true := by decide +kernel
def kX7_passesFor : List jI := [(0, .iload_n 1, 1, 1, 0, 0, []),
  (1, .aload_n 0, 1, 0, 0, 0, []),
  (2, .getfield 7, 3, 7, 0, 0, []),
  (5, .iconst 2, 1, 0, 0, 2, []),
  (6, .iload_n 2, 1, 2, 0, 0, []),
  (7, .iadd, 1, 0, 0, 0, []),
  (8, .iaload, 1, 0, 0, 0, []),
  (9, .aload_n 0, 1, 0, 0, 0, []),
  (10, .getfield 17, 3, 7, 6, 0, []),
  (13, .iload_n 2, 1, 2, 0, 0, []),
  (14, .iaload, 1, 0, 0, 0, []),
  (15, .invokestatic 165, 3, 109, 3, 0, []),
  (18, .ireturn, 1, 0, 0, 1, [])]
theorem gX7_passesFor : jchk 7 cX7_passesFor (some .boolean) 2 45 kX7_passesFor = true := by decide +kernel
def kX7_person : List jI := [(0, .aload_n 0, 1, 0, 0, 0, []),
  (1, .iload_n 1, 1, 1, 0, 0, []),
  (2, .invokevirtual 169, 3, 89, 1, 7, []),
  (5, .ifCond .ne 6, 3, 0, 0, 0, [6]),
  (8, .ldc 172, 2, 0, 0, -1000000001, []),
  (10, .ireturn, 1, 0, 0, 0, []),
  (11, .iload_n 2, 1, 2, 0, 0, []),
  (12, .tableswitch 71 0 3 #[32, 41, 48, 55], 32, 0, 0, 0, [35, 8, 15, 20, 25]),
  (44, .aload_n 0, 1, 0, 0, 0, []),
  (45, .getfield 7, 3, 7, 0, 0, []),
  (48, .iconst 2, 1, 0, 0, 2, []),
  (49, .iload_n 1, 1, 1, 0, 0, []),
  (50, .iadd, 1, 0, 0, 0, []),
  (51, .iaload, 1, 0, 0, 0, []),
  (52, .ireturn, 1, 0, 0, 0, []),
  (53, .aload_n 0, 1, 0, 0, 0, []),
  (54, .getfield 17, 3, 7, 6, 0, []),
  (57, .iload_n 1, 1, 1, 0, 0, []),
  (58, .iaload, 1, 0, 0, 0, []),
  (59, .ireturn, 1, 0, 0, 0, []),
  (60, .aload_n 0, 1, 0, 0, 0, []),
  (61, .getfield 20, 3, 7, 7, 0, []),
  (64, .iload_n 1, 1, 1, 0, 0, []),
  (65, .iaload, 1, 0, 0, 0, []),
  (66, .ireturn, 1, 0, 0, 0, []),
  (67, .aload_n 0, 1, 0, 0, 0, []),
  (68, .getfield 7, 3, 7, 0, 0, []),
  (71, .iconst 2, 1, 0, 0, 2, []),
  (72, .iload_n 1, 1, 1, 0, 0, []),
  (73, .iadd, 1, 0, 0, 0, []),
  (74, .iaload, 1, 0, 0, 0, []),
  (75, .aload_n 0, 1, 0, 0, 0, []),
  (76, .getfield 146, 3, 7, 4, 0, []),
  (79, .invokestatic 173, 3, 108, 2, 0, []),
  (82, .ireturn, 1, 0, 0, 0, []),
  (83, .ldc 75, 2, 0, 0, -1000000002, []),
  (85, .ireturn, 1, 0, 0, 0, [])]
theorem gX7_person : jchk 7 cX7_person (some .int) 2 46 kX7_person = true := by decide +kernel
def kX7_paper : List jI := [(0, .aload_n 0, 1, 0, 0, 0, []),
  (1, .iload_n 1, 1, 1, 0, 0, []),
  (2, .invokevirtual 176, 3, 90, 1, 7, []),
  (5, .ifCond .ne 6, 3, 0, 0, 0, [6]),
  (8, .ldc 172, 2, 0, 0, -1000000001, []),
  (10, .ireturn, 1, 0, 0, 0, []),
  (11, .iload_n 2, 1, 2, 0, 0, []),
  (12, .ifCond .ne 15, 3, 0, 0, 0, [15]),
  (15, .aload_n 0, 1, 0, 0, 0, []),
  (16, .getfield 7, 3, 7, 0, 0, []),
  (19, .bipush 10, 2, 0, 0, 10, []),
  (21, .iload_n 1, 1, 1, 0, 0, []),
  (22, .iadd, 1, 0, 0, 0, []),
  (23, .iaload, 1, 0, 0, 0, []),
  (24, .goto 22, 3, 0, 0, 0, [26]),
  (27, .iload_n 2, 1, 2, 0, 0, []),
  (28, .iconst 1, 1, 0, 0, 1, []),
  (29, .if_icmp .ne 15, 3, 0, 0, 0, [25]),
  (32, .aload_n 0, 1, 0, 0, 0, []),
  (33, .getfield 7, 3, 7, 0, 0, []),
  (36, .bipush 18, 2, 0, 0, 18, []),
  (38, .iload_n 1, 1, 1, 0, 0, []),
  (39, .iadd, 1, 0, 0, 0, []),
  (40, .iaload, 1, 0, 0, 0, []),
  (41, .goto 5, 3, 0, 0, 0, [26]),
  (44, .ldc 75, 2, 0, 0, -1000000002, []),
  (46, .ireturn, 1, 0, 0, 0, [])]
theorem gX7_paper : jchk 7 cX7_paper (some .int) 2 46 kX7_paper = true := by decide +kernel
def kX7_candidate : List jI := [(0, .aload_n 0, 1, 0, 0, 0, []),
  (1, .iload_n 1, 1, 1, 0, 0, []),
  (2, .invokevirtual 179, 3, 91, 1, 7, []),
  (5, .ifCond .eq 12, 3, 0, 0, 0, [9]),
  (8, .aload_n 0, 1, 0, 0, 0, []),
  (9, .getfield 23, 3, 7, 9, 0, []),
  (12, .iload_n 1, 1, 1, 0, 0, []),
  (13, .iaload, 1, 0, 0, 0, []),
  (14, .goto 5, 3, 0, 0, 0, [10]),
  (17, .ldc 172, 2, 0, 0, -1000000001, []),
  (19, .ireturn, 1, 0, 0, 0, [])]
theorem gX7_candidate : jchk 7 cX7_candidate (some .int) 2 46 kX7_candidate = true := by decide +kernel
def kX7_minds : List jI := [(0, .aload_n 0, 1, 0, 0, 0, []),
  (1, .getfield 155, 3, 7, 2, 0, []),
  (4, .bipush 20, 2, 0, 0, 20, []),
  (6, .if_icmp .ne 49, 3, 0, 0, 0, [31]),
  (9, .iconst 0, 1, 0, 0, 0, []),
  (10, .istore_n 1, 1, 1, 0, 0, []),
  (11, .iload_n 1, 1, 1, 0, 0, []),
  (12, .sipush 513, 3, 0, 0, 513, []),
  (15, .if_icmp .ge 30, 3, 0, 0, 0, [25]),
  (18, .aload_n 0, 1, 0, 0, 0, []),
  (19, .getfield 7, 3, 7, 0, 0, []),
  (22, .bipush 108, 2, 0, 0, 108, []),
  (24, .iload_n 1, 1, 1, 0, 0, []),
  (25, .iadd, 1, 0, 0, 0, []),
  (26, .aload_n 0, 1, 0, 0, 0, []),
  (27, .getfield 7, 3, 7, 0, 0, []),
  (30, .bipush 108, 2, 0, 0, 108, []),
  (32, .iload_n 1, 1, 1, 0, 0, []),
  (33, .iadd, 1, 0, 0, 0, []),
  (34, .bipush 27, 2, 0, 0, 27, []),
  (36, .iadd, 1, 0, 0, 0, []),
  (37, .iaload, 1, 0, 0, 0, []),
  (38, .iastore, 1, 0, 0, 0, []),
  (39, .iinc 1 1, 3, 1, 0, 1, []),
  (42, .goto (-31), 3, 0, 0, 0, [6]),
  (45, .aload_n 0, 1, 0, 0, 0, []),
  (46, .dup, 1, 0, 0, 0, []),
  (47, .getfield 155, 3, 7, 2, 0, []),
  (50, .iconst 1, 1, 0, 0, 1, []),
  (51, .isub, 1, 0, 0, 0, []),
  (52, .putfield 155, 3, 7, 2, 0, []),
  (55, .aload_n 0, 1, 0, 0, 0, []),
  (56, .iconst 0, 1, 0, 0, 0, []),
  (57, .bipush 108, 2, 0, 0, 108, []),
  (59, .bipush 27, 2, 0, 0, 27, []),
  (61, .aload_n 0, 1, 0, 0, 0, []),
  (62, .getfield 155, 3, 7, 2, 0, []),
  (65, .imul, 1, 0, 0, 0, []),
  (66, .iadd, 1, 0, 0, 0, []),
  (67, .invokevirtual 182, 3, 87, 2, 7, []),
  (70, .aload_n 0, 1, 0, 0, 0, []),
  (71, .dup, 1, 0, 0, 0, []),
  (72, .getfield 155, 3, 7, 2, 0, []),
  (75, .iconst 1, 1, 0, 0, 1, []),
  (76, .iadd, 1, 0, 0, 0, []),
  (77, .putfield 155, 3, 7, 2, 0, []),
  (80, .return_, 1, 0, 0, 0, [])]
theorem gX7_minds : jchk 7 cX7_minds none 1 23 kX7_minds = true := by decide +kernel
def kX7_undo : List jI := [(0, .aload_n 0, 1, 0, 0, 0, []),
  (1, .getfield 155, 3, 7, 2, 0, []),
  (4, .ifCond .ne 6, 3, 0, 0, 0, [5]),
  (7, .ldc 186, 2, 0, 0, -1000000003, []),
  (9, .ireturn, 1, 0, 0, 0, []),
  (10, .aload_n 0, 1, 0, 0, 0, []),
  (11, .getfield 7, 3, 7, 0, 0, []),
  (14, .bipush 26, 2, 0, 0, 26, []),
  (16, .iaload, 1, 0, 0, 0, []),
  (17, .istore_n 1, 1, 1, 0, 0, []),
  (18, .aload_n 0, 1, 0, 0, 0, []),
  (19, .dup, 1, 0, 0, 0, []),
  (20, .getfield 155, 3, 7, 2, 0, []),
  (23, .iconst 1, 1, 0, 0, 1, []),
  (24, .isub, 1, 0, 0, 0, []),
  (25, .putfield 155, 3, 7, 2, 0, []),
  (28, .aload_n 0, 1, 0, 0, 0, []),
  (29, .bipush 108, 2, 0, 0, 108, []),
  (31, .bipush 27, 2, 0, 0, 27, []),
  (33, .aload_n 0, 1, 0, 0, 0, []),
  (34, .getfield 155, 3, 7, 2, 0, []),
  (37, .imul, 1, 0, 0, 0, []),
  (38, .iadd, 1, 0, 0, 0, []),
  (39, .iconst 0, 1, 0, 0, 0, []),
  (40, .invokevirtual 182, 3, 87, 2, 7, []),
  (43, .aload_n 0, 1, 0, 0, 0, []),
  (44, .getfield 7, 3, 7, 0, 0, []),
  (47, .bipush 26, 2, 0, 0, 26, []),
  (49, .iload_n 1, 1, 1, 0, 0, []),
  (50, .iastore, 1, 0, 0, 0, []),
  (51, .aload_n 0, 1, 0, 0, 0, []),
  (52, .getfield 155, 3, 7, 2, 0, []),
  (55, .ireturn, 1, 0, 0, 0, [])]
theorem gX7_undo : jchk 7 cX7_undo (some .int) 1 23 kX7_undo = true := by decide +kernel
def kX7_passesYear : List jI := [(0, .iconst 0, 1, 0, 0, 0, []),
  (1, .istore_n 2, 1, 2, 0, 0, []),
  (2, .iload_n 2, 1, 2, 0, 0, []),
  (3, .aload_n 0, 1, 0, 0, 0, []),
  (4, .getfield 67, 3, 7, 5, 0, []),
  (7, .if_icmp .ge 153, 3, 0, 0, 0, [96]),
  (10, .aload_n 0, 1, 0, 0, 0, []),
  (11, .getfield 7, 3, 7, 0, 0, []),
  (14, .iload_n 1, 1, 1, 0, 0, []),
  (15, .iconst 2, 1, 0, 0, 2, []),
  (16, .iadd, 1, 0, 0, 0, []),
  (17, .iload_n 2, 1, 2, 0, 0, []),
  (18, .iadd, 1, 0, 0, 0, []),
  (19, .iaload, 1, 0, 0, 0, []),
  (20, .istore_n 3, 1, 3, 0, 0, []),
  (21, .iload_n 3, 1, 3, 0, 0, []),
  (22, .bipush 100, 2, 0, 0, 100, []),
  (24, .idiv, 1, 0, 0, 0, []),
  (25, .istore 4, 2, 4, 0, 0, []),
  (27, .aload_n 0, 1, 0, 0, 0, []),
  (28, .getfield 146, 3, 7, 4, 0, []),
  (31, .bipush 100, 2, 0, 0, 100, []),
  (33, .idiv, 1, 0, 0, 0, []),
  (34, .istore 5, 2, 5, 0, 0, []),
  (36, .iload 4, 2, 4, 0, 0, []),
  (38, .iload 5, 2, 5, 0, 0, []),
  (40, .invokestatic 162, 3, 107, 2, 0, []),
  (43, .aload_n 0, 1, 0, 0, 0, []),
  (44, .getfield 20, 3, 7, 7, 0, []),
  (47, .iload_n 2, 1, 2, 0, 0, []),
  (48, .iaload, 1, 0, 0, 0, []),
  (49, .if_icmp .ge 13, 3, 0, 0, 0, [36]),
  (52, .iload 4, 2, 4, 0, 0, []),
  (54, .iload 5, 2, 5, 0, 0, []),
  (56, .invokestatic 162, 3, 107, 2, 0, []),
  (59, .goto 9, 3, 0, 0, 0, [40]),
  (62, .aload_n 0, 1, 0, 0, 0, []),
  (63, .getfield 20, 3, 7, 7, 0, []),
  (66, .iload_n 2, 1, 2, 0, 0, []),
  (67, .iaload, 1, 0, 0, 0, []),
  (68, .istore 6, 2, 6, 0, 0, []),
  (70, .iload 4, 2, 4, 0, 0, []),
  (72, .iload 4, 2, 4, 0, 0, []),
  (74, .iload 5, 2, 5, 0, 0, []),
  (76, .if_icmp .ge 8, 3, 0, 0, 0, [47]),
  (79, .iload 6, 2, 6, 0, 0, []),
  (81, .goto 6, 3, 0, 0, 0, [49]),
  (84, .iload 6, 2, 6, 0, 0, []),
  (86, .ineg, 1, 0, 0, 0, []),
  (87, .iadd, 1, 0, 0, 0, []),
  (88, .istore 4, 2, 4, 0, 0, []),
  (90, .iload_n 3, 1, 3, 0, 0, []),
  (91, .bipush 10, 2, 0, 0, 10, []),
  (93, .irem, 1, 0, 0, 0, []),
  (94, .aload_n 0, 1, 0, 0, 0, []),
  (95, .getfield 7, 3, 7, 0, 0, []),
  (98, .iload_n 1, 1, 1, 0, 0, []),
  (99, .iconst 0, 1, 0, 0, 0, []),
  (100, .iadd, 1, 0, 0, 0, []),
  (101, .iaload, 1, 0, 0, 0, []),
  (102, .iconst 2, 1, 0, 0, 2, []),
  (103, .irem, 1, 0, 0, 0, []),
  (104, .iconst 1, 1, 0, 0, 1, []),
  (105, .if_icmp .ne 7, 3, 0, 0, 0, [66]),
  (108, .iconst 1, 1, 0, 0, 1, []),
  (109, .goto 4, 3, 0, 0, 0, [67]),
  (112, .iconst 0, 1, 0, 0, 0, []),
  (113, .isub, 1, 0, 0, 0, []),
  (114, .istore 7, 2, 7, 0, 0, []),
  (116, .aload_n 0, 1, 0, 0, 0, []),
  (117, .getfield 7, 3, 7, 0, 0, []),
  (120, .iload_n 1, 1, 1, 0, 0, []),
  (121, .iconst 2, 1, 0, 0, 2, []),
  (122, .iadd, 1, 0, 0, 0, []),
  (123, .iload_n 2, 1, 2, 0, 0, []),
  (124, .iadd, 1, 0, 0, 0, []),
  (125, .bipush 100, 2, 0, 0, 100, []),
  (127, .iload 4, 2, 4, 0, 0, []),
  (129, .imul, 1, 0, 0, 0, []),
  (130, .bipush 10, 2, 0, 0, 10, []),
  (132, .iload_n 3, 1, 3, 0, 0, []),
  (133, .bipush 10, 2, 0, 0, 10, []),
  (135, .idiv, 1, 0, 0, 0, []),
  (136, .bipush 10, 2, 0, 0, 10, []),
  (138, .irem, 1, 0, 0, 0, []),
  (139, .imul, 1, 0, 0, 0, []),
  (140, .iadd, 1, 0, 0, 0, []),
  (141, .iload 7, 2, 7, 0, 0, []),
  (143, .ifCond .ge 7, 3, 0, 0, 0, [91]),
  (146, .iconst 0, 1, 0, 0, 0, []),
  (147, .goto 5, 3, 0, 0, 0, [92]),
  (150, .iload 7, 2, 7, 0, 0, []),
  (152, .iadd, 1, 0, 0, 0, []),
  (153, .iastore, 1, 0, 0, 0, []),
  (154, .iinc 2 1, 3, 2, 0, 1, []),
  (157, .goto (-155), 3, 0, 0, 0, [2]),
  (160, .aload_n 0, 1, 0, 0, 0, []),
  (161, .getfield 7, 3, 7, 0, 0, []),
  (164, .iload_n 1, 1, 1, 0, 0, []),
  (165, .iconst 0, 1, 0, 0, 0, []),
  (166, .iadd, 1, 0, 0, 0, []),
  (167, .dup2, 1, 0, 0, 0, []),
  (168, .iaload, 1, 0, 0, 0, []),
  (169, .iconst 1, 1, 0, 0, 1, []),
  (170, .iadd, 1, 0, 0, 0, []),
  (171, .iastore, 1, 0, 0, 0, []),
  (172, .return_, 1, 0, 0, 0, [])]
theorem gX7_passesYear : jchk 7 cX7_passesYear none 1 21 kX7_passesYear = true := by decide +kernel
def kX7_year : List jI := [(0, .iload_n 1, 1, 1, 0, 0, []),
  (1, .i2l, 1, 0, 0, 0, []),
  (2, .lconst 1, 1, 0, 0, 1, []),
  (3, .ldc2_w 187, 3, 0, 0, 60, []),
  (6, .invokestatic 63, 3, 84, 3, 0, []),
  (9, .ifCond .ne 6, 3, 0, 0, 0, [8]),
  (12, .ldc 75, 2, 0, 0, -1000000002, []),
  (14, .ireturn, 1, 0, 0, 0, []),
  (15, .aload_n 0, 1, 0, 0, 0, []),
  (16, .getfield 57, 3, 7, 3, 0, []),
  (19, .ifCond .ne 6, 3, 0, 0, 0, [13]),
  (22, .ldc 186, 2, 0, 0, -1000000003, []),
  (24, .ireturn, 1, 0, 0, 0, []),
  (25, .aload_n 0, 1, 0, 0, 0, []),
  (26, .getfield 7, 3, 7, 0, 0, []),
  (29, .iconst 0, 1, 0, 0, 0, []),
  (30, .iaload, 1, 0, 0, 0, []),
  (31, .sipush 9000, 3, 0, 0, 9000, []),
  (34, .if_icmp .le 6, 3, 0, 0, 0, [21]),
  (37, .ldc 79, 2, 0, 0, -1000000004, []),
  (39, .ireturn, 1, 0, 0, 0, []),
  (40, .aload_n 0, 1, 0, 0, 0, []),
  (41, .invokevirtual 189, 3, 114, 0, 7, []),
  (44, .iconst 0, 1, 0, 0, 0, []),
  (45, .istore_n 2, 1, 2, 0, 0, []),
  (46, .iload_n 2, 1, 2, 0, 0, []),
  (47, .iload_n 1, 1, 1, 0, 0, []),
  (48, .if_icmp .ge 14, 3, 0, 0, 0, [33]),
  (51, .aload_n 0, 1, 0, 0, 0, []),
  (52, .iconst 0, 1, 0, 0, 0, []),
  (53, .invokevirtual 192, 3, 116, 1, 7, []),
  (56, .iinc 2 1, 3, 2, 0, 1, []),
  (59, .goto (-13), 3, 0, 0, 0, [25]),
  (62, .aload_n 0, 1, 0, 0, 0, []),
  (63, .getfield 7, 3, 7, 0, 0, []),
  (66, .iconst 0, 1, 0, 0, 0, []),
  (67, .iaload, 1, 0, 0, 0, []),
  (68, .ireturn, 1, 0, 0, 0, [])]
theorem gX7_year : jchk 7 cX7_year (some .int) 2 48 kX7_year = true := by decide +kernel
def kX7_teach : List jI := [(0, .aload_n 0, 1, 0, 0, 0, []),
  (1, .iload_n 1, 1, 1, 0, 0, []),
  (2, .invokevirtual 169, 3, 89, 1, 7, []),
  (5, .ifCond .ne 6, 3, 0, 0, 0, [6]),
  (8, .ldc 172, 2, 0, 0, -1000000001, []),
  (10, .ireturn, 1, 0, 0, 0, []),
  (11, .iload_n 2, 1, 2, 0, 0, []),
  (12, .invokestatic 196, 3, 88, 1, 0, []),
  (15, .ifCond .ne 6, 3, 0, 0, 0, [11]),
  (18, .ldc 75, 2, 0, 0, -1000000002, []),
  (20, .ireturn, 1, 0, 0, 0, []),
  (21, .aload_n 0, 1, 0, 0, 0, []),
  (22, .invokevirtual 189, 3, 114, 0, 7, []),
  (25, .aload_n 0, 1, 0, 0, 0, []),
  (26, .getfield 7, 3, 7, 0, 0, []),
  (29, .iconst 2, 1, 0, 0, 2, []),
  (30, .iload_n 1, 1, 1, 0, 0, []),
  (31, .iadd, 1, 0, 0, 0, []),
  (32, .iaload, 1, 0, 0, 0, []),
  (33, .istore_n 3, 1, 3, 0, 0, []),
  (34, .aload_n 0, 1, 0, 0, 0, []),
  (35, .getfield 7, 3, 7, 0, 0, []),
  (38, .iconst 2, 1, 0, 0, 2, []),
  (39, .iload_n 1, 1, 1, 0, 0, []),
  (40, .iadd, 1, 0, 0, 0, []),
  (41, .iload_n 2, 1, 2, 0, 0, []),
  (42, .iastore, 1, 0, 0, 0, []),
  (43, .iload_n 3, 1, 3, 0, 0, []),
  (44, .iload_n 2, 1, 2, 0, 0, []),
  (45, .invokestatic 173, 3, 108, 2, 0, []),
  (48, .ireturn, 1, 0, 0, 0, [])]
theorem gX7_teach : jchk 7 cX7_teach (some .int) 2 46 kX7_teach = true := by decide +kernel
def kX7_sign : List jI := [(0, .aload_n 0, 1, 0, 0, 0, []),
  (1, .iload_n 1, 1, 1, 0, 0, []),
  (2, .invokevirtual 169, 3, 89, 1, 7, []),
  (5, .ifCond .ne 6, 3, 0, 0, 0, [6]),
  (8, .ldc 172, 2, 0, 0, -1000000001, []),
  (10, .ireturn, 1, 0, 0, 0, []),
  (11, .iload_n 2, 1, 2, 0, 0, []),
  (12, .invokestatic 196, 3, 88, 1, 0, []),
  (15, .ifCond .ne 6, 3, 0, 0, 0, [11]),
  (18, .ldc 75, 2, 0, 0, -1000000002, []),
  (20, .ireturn, 1, 0, 0, 0, []),
  (21, .aload_n 0, 1, 0, 0, 0, []),
  (22, .getfield 7, 3, 7, 0, 0, []),
  (25, .iconst 1, 1, 0, 0, 1, []),
  (26, .iaload, 1, 0, 0, 0, []),
  (27, .bipush 8, 2, 0, 0, 8, []),
  (29, .if_icmp .ne 6, 3, 0, 0, 0, [19]),
  (32, .ldc 79, 2, 0, 0, -1000000004, []),
  (34, .ireturn, 1, 0, 0, 0, []),
  (35, .aload_n 0, 1, 0, 0, 0, []),
  (36, .invokevirtual 189, 3, 114, 0, 7, []),
  (39, .aload_n 0, 1, 0, 0, 0, []),
  (40, .getfield 7, 3, 7, 0, 0, []),
  (43, .bipush 10, 2, 0, 0, 10, []),
  (45, .aload_n 0, 1, 0, 0, 0, []),
  (46, .getfield 7, 3, 7, 0, 0, []),
  (49, .iconst 1, 1, 0, 0, 1, []),
  (50, .iaload, 1, 0, 0, 0, []),
  (51, .iadd, 1, 0, 0, 0, []),
  (52, .iload_n 2, 1, 2, 0, 0, []),
  (53, .iastore, 1, 0, 0, 0, []),
  (54, .aload_n 0, 1, 0, 0, 0, []),
  (55, .getfield 7, 3, 7, 0, 0, []),
  (58, .bipush 18, 2, 0, 0, 18, []),
  (60, .aload_n 0, 1, 0, 0, 0, []),
  (61, .getfield 7, 3, 7, 0, 0, []),
  (64, .iconst 1, 1, 0, 0, 1, []),
  (65, .iaload, 1, 0, 0, 0, []),
  (66, .iadd, 1, 0, 0, 0, []),
  (67, .iload_n 1, 1, 1, 0, 0, []),
  (68, .iastore, 1, 0, 0, 0, []),
  (69, .aload_n 0, 1, 0, 0, 0, []),
  (70, .getfield 7, 3, 7, 0, 0, []),
  (73, .iconst 1, 1, 0, 0, 1, []),
  (74, .dup2, 1, 0, 0, 0, []),
  (75, .iaload, 1, 0, 0, 0, []),
  (76, .iconst 1, 1, 0, 0, 1, []),
  (77, .iadd, 1, 0, 0, 0, []),
  (78, .iastore, 1, 0, 0, 0, []),
  (79, .aload_n 0, 1, 0, 0, 0, []),
  (80, .getfield 7, 3, 7, 0, 0, []),
  (83, .iconst 1, 1, 0, 0, 1, []),
  (84, .iaload, 1, 0, 0, 0, []),
  (85, .ireturn, 1, 0, 0, 0, [])]
theorem gX7_sign : jchk 7 cX7_sign (some .int) 2 46 kX7_sign = true := by decide +kernel
end
section
/-! THE CODE of the methods, with what each instruction needs; checked against the bytes -/
def kX7_tearPaper : List jI := [(0, .aload_n 0, 1, 0, 0, 0, []),
  (1, .getfield 7, 3, 7, 0, 0, []),
  (4, .iconst 1, 1, 0, 0, 1, []),
  (5, .iaload, 1, 0, 0, 0, []),
  (6, .ifCond .ne 6, 3, 0, 0, 0, [7]),
  (9, .ldc 186, 2, 0, 0, -1000000003, []),
  (11, .ireturn, 1, 0, 0, 0, []),
  (12, .aload_n 0, 1, 0, 0, 0, []),
  (13, .invokevirtual 189, 3, 114, 0, 7, []),
  (16, .aload_n 0, 1, 0, 0, 0, []),
  (17, .getfield 7, 3, 7, 0, 0, []),
  (20, .iconst 1, 1, 0, 0, 1, []),
  (21, .dup2, 1, 0, 0, 0, []),
  (22, .iaload, 1, 0, 0, 0, []),
  (23, .iconst 1, 1, 0, 0, 1, []),
  (24, .isub, 1, 0, 0, 0, []),
  (25, .iastore, 1, 0, 0, 0, []),
  (26, .aload_n 0, 1, 0, 0, 0, []),
  (27, .getfield 7, 3, 7, 0, 0, []),
  (30, .bipush 10, 2, 0, 0, 10, []),
  (32, .aload_n 0, 1, 0, 0, 0, []),
  (33, .getfield 7, 3, 7, 0, 0, []),
  (36, .iconst 1, 1, 0, 0, 1, []),
  (37, .iaload, 1, 0, 0, 0, []),
  (38, .iadd, 1, 0, 0, 0, []),
  (39, .iaload, 1, 0, 0, 0, []),
  (40, .ireturn, 1, 0, 0, 0, [])]
theorem gX7_tearPaper : jchk 7 cX7_tearPaper (some .int) 2 44 kX7_tearPaper = true := by decide +kernel
def kX7_draw : List jI := [(0, .aload_n 0, 1, 0, 0, 0, []),
  (1, .getfield 7, 3, 7, 0, 0, []),
  (4, .bipush 26, 2, 0, 0, 26, []),
  (6, .aload_n 0, 1, 0, 0, 0, []),
  (7, .getfield 7, 3, 7, 0, 0, []),
  (10, .bipush 26, 2, 0, 0, 26, []),
  (12, .iaload, 1, 0, 0, 0, []),
  (13, .i2l, 1, 0, 0, 0, []),
  (14, .ldc2_w 199, 3, 0, 0, 1103515245, []),
  (17, .lmul, 1, 0, 0, 0, []),
  (18, .ldc2_w 201, 3, 0, 0, 12345, []),
  (21, .ladd, 1, 0, 0, 0, []),
  (22, .ldc2_w 203, 3, 0, 0, 2147483648, []),
  (25, .lrem, 1, 0, 0, 0, []),
  (26, .l2i, 1, 0, 0, 0, []),
  (27, .iastore, 1, 0, 0, 0, []),
  (28, .aload_n 0, 1, 0, 0, 0, []),
  (29, .getfield 7, 3, 7, 0, 0, []),
  (32, .bipush 26, 2, 0, 0, 26, []),
  (34, .iaload, 1, 0, 0, 0, []),
  (35, .ldc 205, 2, 0, 0, 65536, []),
  (37, .idiv, 1, 0, 0, 0, []),
  (38, .iload_n 1, 1, 1, 0, 0, []),
  (39, .irem, 1, 0, 0, 0, []),
  (40, .ireturn, 1, 0, 0, 0, [])]
theorem gX7_draw : jchk 7 cX7_draw (some .int) 0 0 kX7_draw = true := by decide +kernel
def kX7_shaken : List jI := [(0, .iload_n 0, 1, 0, 0, 0, []),
  (1, .iload_n 1, 1, 1, 0, 0, []),
  (2, .invokestatic 158, 3, 106, 2, 0, []),
  (5, .istore_n 3, 1, 3, 0, 0, []),
  (6, .iload_n 1, 1, 1, 0, 0, []),
  (7, .ifCond .ne 8, 3, 0, 0, 0, [8]),
  (10, .bipush 100, 2, 0, 0, 100, []),
  (12, .goto 14, 3, 0, 0, 0, [14]),
  (15, .iload_n 1, 1, 1, 0, 0, []),
  (16, .iconst 1, 1, 0, 0, 1, []),
  (17, .if_icmp .ne 8, 3, 0, 0, 0, [13]),
  (20, .bipush 10, 2, 0, 0, 10, []),
  (22, .goto 4, 3, 0, 0, 0, [14]),
  (25, .iconst 1, 1, 0, 0, 1, []),
  (26, .istore 4, 2, 4, 0, 0, []),
  (28, .iload_n 2, 1, 2, 0, 0, []),
  (29, .ifCond .eq 20, 3, 0, 0, 0, [26]),
  (32, .iload_n 3, 1, 3, 0, 0, []),
  (33, .bipush 9, 2, 0, 0, 9, []),
  (35, .if_icmp .ge 10, 3, 0, 0, 0, [24]),
  (38, .iload_n 0, 1, 0, 0, 0, []),
  (39, .iload 4, 2, 4, 0, 0, []),
  (41, .iadd, 1, 0, 0, 0, []),
  (42, .goto 19, 3, 0, 0, 0, [33]),
  (45, .iload_n 0, 1, 0, 0, 0, []),
  (46, .goto 15, 3, 0, 0, 0, [33]),
  (49, .iload_n 3, 1, 3, 0, 0, []),
  (50, .ifCond .le 10, 3, 0, 0, 0, [32]),
  (53, .iload_n 0, 1, 0, 0, 0, []),
  (54, .iload 4, 2, 4, 0, 0, []),
  (56, .isub, 1, 0, 0, 0, []),
  (57, .goto 4, 3, 0, 0, 0, [33]),
  (60, .iload_n 0, 1, 0, 0, 0, []),
  (61, .ireturn, 1, 0, 0, 0, [])]
theorem gX7_shaken : jchk 7 cX7_shaken (some .int) 1 21 kX7_shaken = true := by decide +kernel
def kX7_drift : List jI := [(0, .iload_n 1, 1, 1, 0, 0, []),
  (1, .i2l, 1, 0, 0, 0, []),
  (2, .lconst 1, 1, 0, 0, 1, []),
  (3, .ldc2_w 187, 3, 0, 0, 60, []),
  (6, .invokestatic 63, 3, 84, 3, 0, []),
  (9, .ifCond .ne 6, 3, 0, 0, 0, [8]),
  (12, .ldc 75, 2, 0, 0, -1000000002, []),
  (14, .ireturn, 1, 0, 0, 0, []),
  (15, .aload_n 0, 1, 0, 0, 0, []),
  (16, .getfield 57, 3, 7, 3, 0, []),
  (19, .ifCond .ne 6, 3, 0, 0, 0, [13]),
  (22, .ldc 186, 2, 0, 0, -1000000003, []),
  (24, .ireturn, 1, 0, 0, 0, []),
  (25, .aload_n 0, 1, 0, 0, 0, []),
  (26, .invokevirtual 189, 3, 114, 0, 7, []),
  (29, .aload_n 0, 1, 0, 0, 0, []),
  (30, .iconst 0, 1, 0, 0, 0, []),
  (31, .bipush 27, 2, 0, 0, 27, []),
  (33, .invokevirtual 182, 3, 87, 2, 7, []),
  (36, .iconst 0, 1, 0, 0, 0, []),
  (37, .istore_n 2, 1, 2, 0, 0, []),
  (38, .iload_n 2, 1, 2, 0, 0, []),
  (39, .iload_n 1, 1, 1, 0, 0, []),
  (40, .if_icmp .ge 67, 3, 0, 0, 0, [60]),
  (43, .aload_n 0, 1, 0, 0, 0, []),
  (44, .getfield 67, 3, 7, 5, 0, []),
  (47, .ifCond .le 60, 3, 0, 0, 0, [60]),
  (50, .aload_n 0, 1, 0, 0, 0, []),
  (51, .aload_n 0, 1, 0, 0, 0, []),
  (52, .getfield 67, 3, 7, 5, 0, []),
  (55, .invokevirtual 206, 3, 121, 1, 7, []),
  (58, .istore_n 3, 1, 3, 0, 0, []),
  (59, .aload_n 0, 1, 0, 0, 0, []),
  (60, .iconst 3, 1, 0, 0, 3, []),
  (61, .invokevirtual 206, 3, 121, 1, 7, []),
  (64, .istore 4, 2, 4, 0, 0, []),
  (66, .aload_n 0, 1, 0, 0, 0, []),
  (67, .getfield 7, 3, 7, 0, 0, []),
  (70, .iconst 2, 1, 0, 0, 2, []),
  (71, .iload_n 3, 1, 3, 0, 0, []),
  (72, .iadd, 1, 0, 0, 0, []),
  (73, .aload_n 0, 1, 0, 0, 0, []),
  (74, .getfield 7, 3, 7, 0, 0, []),
  (77, .iconst 2, 1, 0, 0, 2, []),
  (78, .iload_n 3, 1, 3, 0, 0, []),
  (79, .iadd, 1, 0, 0, 0, []),
  (80, .iaload, 1, 0, 0, 0, []),
  (81, .iload 4, 2, 4, 0, 0, []),
  (83, .aload_n 0, 1, 0, 0, 0, []),
  (84, .iconst 2, 1, 0, 0, 2, []),
  (85, .invokevirtual 206, 3, 121, 1, 7, []),
  (88, .iconst 1, 1, 0, 0, 1, []),
  (89, .if_icmp .ne 7, 3, 0, 0, 0, [55]),
  (92, .iconst 1, 1, 0, 0, 1, []),
  (93, .goto 4, 3, 0, 0, 0, [56]),
  (96, .iconst 0, 1, 0, 0, 0, []),
  (97, .invokestatic 209, 3, 122, 3, 0, []),
  (100, .iastore, 1, 0, 0, 0, []),
  (101, .iinc 2 1, 3, 2, 0, 1, []),
  (104, .goto (-66), 3, 0, 0, 0, [21]),
  (107, .iconst 0, 1, 0, 0, 0, []),
  (108, .istore_n 2, 1, 2, 0, 0, []),
  (109, .iconst 0, 1, 0, 0, 0, []),
  (110, .istore_n 3, 1, 3, 0, 0, []),
  (111, .iload_n 3, 1, 3, 0, 0, []),
  (112, .aload_n 0, 1, 0, 0, 0, []),
  (113, .getfield 67, 3, 7, 5, 0, []),
  (116, .if_icmp .ge 37, 3, 0, 0, 0, [89]),
  (119, .iload_n 2, 1, 2, 0, 0, []),
  (120, .aload_n 0, 1, 0, 0, 0, []),
  (121, .getfield 7, 3, 7, 0, 0, []),
  (124, .iconst 2, 1, 0, 0, 2, []),
  (125, .iload_n 3, 1, 3, 0, 0, []),
  (126, .iadd, 1, 0, 0, 0, []),
  (127, .iaload, 1, 0, 0, 0, []),
  (128, .aload_n 0, 1, 0, 0, 0, []),
  (129, .getfield 7, 3, 7, 0, 0, []),
  (132, .bipush 29, 2, 0, 0, 29, []),
  (134, .iload_n 3, 1, 3, 0, 0, []),
  (135, .iadd, 1, 0, 0, 0, []),
  (136, .iaload, 1, 0, 0, 0, []),
  (137, .if_icmp .ne 7, 3, 0, 0, 0, [84]),
  (140, .iconst 0, 1, 0, 0, 0, []),
  (141, .goto 4, 3, 0, 0, 0, [85]),
  (144, .iconst 1, 1, 0, 0, 1, []),
  (145, .iadd, 1, 0, 0, 0, []),
  (146, .istore_n 2, 1, 2, 0, 0, []),
  (147, .iinc 3 1, 3, 3, 0, 1, []),
  (150, .goto (-39), 3, 0, 0, 0, [64]),
  (153, .iload_n 2, 1, 2, 0, 0, []),
  (154, .ireturn, 1, 0, 0, 0, [])]
theorem gX7_drift : jchk 7 cX7_drift (some .int) 2 45 kX7_drift = true := by decide +kernel
def kX7_whoseIs : List jI := [(0, .iconst 0, 1, 0, 0, 0, []),
  (1, .istore_n 2, 1, 2, 0, 0, []),
  (2, .iconst 0, 1, 0, 0, 0, []),
  (3, .istore_n 3, 1, 3, 0, 0, []),
  (4, .iload_n 3, 1, 3, 0, 0, []),
  (5, .aload_n 0, 1, 0, 0, 0, []),
  (6, .getfield 67, 3, 7, 5, 0, []),
  (9, .if_icmp .ge 28, 3, 0, 0, 0, [23]),
  (12, .iload_n 2, 1, 2, 0, 0, []),
  (13, .aload_n 0, 1, 0, 0, 0, []),
  (14, .iload_n 1, 1, 1, 0, 0, []),
  (15, .iload_n 3, 1, 3, 0, 0, []),
  (16, .invokevirtual 213, 3, 110, 2, 7, []),
  (19, .ifCond .eq 9, 3, 0, 0, 0, [18]),
  (22, .iconst 1, 1, 0, 0, 1, []),
  (23, .iload_n 3, 1, 3, 0, 0, []),
  (24, .ishl, 1, 0, 0, 0, []),
  (25, .goto 4, 3, 0, 0, 0, [19]),
  (28, .iconst 0, 1, 0, 0, 0, []),
  (29, .ior, 1, 0, 0, 0, []),
  (30, .istore_n 2, 1, 2, 0, 0, []),
  (31, .iinc 3 1, 3, 3, 0, 1, []),
  (34, .goto (-30), 3, 0, 0, 0, [4]),
  (37, .iload_n 2, 1, 2, 0, 0, []),
  (38, .ireturn, 1, 0, 0, 0, [])]
theorem gX7_whoseIs : jchk 7 cX7_whoseIs (some .int) 3 67 kX7_whoseIs = true := by decide +kernel
def kX7_whose : List jI := [(0, .iload_n 1, 1, 1, 0, 0, []),
  (1, .invokestatic 196, 3, 88, 1, 0, []),
  (4, .ifCond .eq 11, 3, 0, 0, 0, [7]),
  (7, .aload_n 0, 1, 0, 0, 0, []),
  (8, .iload_n 1, 1, 1, 0, 0, []),
  (9, .invokevirtual 216, 3, 124, 1, 7, []),
  (12, .goto 5, 3, 0, 0, 0, [8]),
  (15, .ldc 75, 2, 0, 0, -1000000002, []),
  (17, .ireturn, 1, 0, 0, 0, [])]
theorem gX7_whose : jchk 7 cX7_whose (some .int) 4 90 kX7_whose = true := by decide +kernel
def kX7_marksOf : List jI := [(0, .iconst 1, 1, 0, 0, 1, []),
  (1, .istore_n 2, 1, 2, 0, 0, []),
  (2, .iconst 0, 1, 0, 0, 0, []),
  (3, .istore_n 3, 1, 3, 0, 0, []),
  (4, .iload_n 3, 1, 3, 0, 0, []),
  (5, .iconst 3, 1, 0, 0, 3, []),
  (6, .if_icmp .ge 89, 3, 0, 0, 0, [58]),
  (9, .aload_n 0, 1, 0, 0, 0, []),
  (10, .getfield 7, 3, 7, 0, 0, []),
  (13, .iconst 2, 1, 0, 0, 2, []),
  (14, .iload_n 1, 1, 1, 0, 0, []),
  (15, .iadd, 1, 0, 0, 0, []),
  (16, .iaload, 1, 0, 0, 0, []),
  (17, .iload_n 3, 1, 3, 0, 0, []),
  (18, .invokestatic 158, 3, 106, 2, 0, []),
  (21, .istore 4, 2, 4, 0, 0, []),
  (23, .iload 4, 2, 4, 0, 0, []),
  (25, .aload_n 0, 1, 0, 0, 0, []),
  (26, .getfield 17, 3, 7, 6, 0, []),
  (29, .iload_n 1, 1, 1, 0, 0, []),
  (30, .iaload, 1, 0, 0, 0, []),
  (31, .if_icmp .ge 7, 3, 0, 0, 0, [24]),
  (34, .iconst 0, 1, 0, 0, 0, []),
  (35, .goto 12, 3, 0, 0, 0, [30]),
  (38, .iload 4, 2, 4, 0, 0, []),
  (40, .aload_n 0, 1, 0, 0, 0, []),
  (41, .getfield 17, 3, 7, 6, 0, []),
  (44, .iload_n 1, 1, 1, 0, 0, []),
  (45, .iaload, 1, 0, 0, 0, []),
  (46, .isub, 1, 0, 0, 0, []),
  (47, .istore 5, 2, 5, 0, 0, []),
  (49, .iload 4, 2, 4, 0, 0, []),
  (51, .aload_n 0, 1, 0, 0, 0, []),
  (52, .getfield 17, 3, 7, 6, 0, []),
  (55, .iload_n 1, 1, 1, 0, 0, []),
  (56, .iaload, 1, 0, 0, 0, []),
  (57, .iadd, 1, 0, 0, 0, []),
  (58, .bipush 9, 2, 0, 0, 9, []),
  (60, .if_icmp .le 8, 3, 0, 0, 0, [41]),
  (63, .bipush 9, 2, 0, 0, 9, []),
  (65, .goto 12, 3, 0, 0, 0, [47]),
  (68, .iload 4, 2, 4, 0, 0, []),
  (70, .aload_n 0, 1, 0, 0, 0, []),
  (71, .getfield 17, 3, 7, 6, 0, []),
  (74, .iload_n 1, 1, 1, 0, 0, []),
  (75, .iaload, 1, 0, 0, 0, []),
  (76, .iadd, 1, 0, 0, 0, []),
  (77, .istore 6, 2, 6, 0, 0, []),
  (79, .iload_n 2, 1, 2, 0, 0, []),
  (80, .iload 6, 2, 6, 0, 0, []),
  (82, .iload 5, 2, 5, 0, 0, []),
  (84, .isub, 1, 0, 0, 0, []),
  (85, .iconst 1, 1, 0, 0, 1, []),
  (86, .iadd, 1, 0, 0, 0, []),
  (87, .imul, 1, 0, 0, 0, []),
  (88, .istore_n 2, 1, 2, 0, 0, []),
  (89, .iinc 3 1, 3, 3, 0, 1, []),
  (92, .goto (-88), 3, 0, 0, 0, [4]),
  (95, .iload_n 2, 1, 2, 0, 0, []),
  (96, .ireturn, 1, 0, 0, 0, [])]
theorem gX7_marksOf : jchk 7 cX7_marksOf (some .int) 1 21 kX7_marksOf = true := by decide +kernel
def kX7_odds : List jI := [(0, .aload_n 0, 1, 0, 0, 0, []),
  (1, .iload_n 1, 1, 1, 0, 0, []),
  (2, .invokevirtual 169, 3, 89, 1, 7, []),
  (5, .ifCond .ne 6, 3, 0, 0, 0, [6]),
  (8, .ldc 172, 2, 0, 0, -1000000001, []),
  (10, .ireturn, 1, 0, 0, 0, []),
  (11, .iload_n 2, 1, 2, 0, 0, []),
  (12, .invokestatic 196, 3, 88, 1, 0, []),
  (15, .ifCond .ne 6, 3, 0, 0, 0, [11]),
  (18, .ldc 75, 2, 0, 0, -1000000002, []),
  (20, .ireturn, 1, 0, 0, 0, []),
  (21, .aload_n 0, 1, 0, 0, 0, []),
  (22, .iload_n 2, 1, 2, 0, 0, []),
  (23, .invokevirtual 216, 3, 124, 1, 7, []),
  (26, .istore_n 3, 1, 3, 0, 0, []),
  (27, .lconst 0, 1, 0, 0, 0, []),
  (28, .lstore 4, 2, 4, 0, 0, []),
  (30, .iconst 0, 1, 0, 0, 0, []),
  (31, .istore 6, 2, 6, 0, 0, []),
  (33, .iload 6, 2, 6, 0, 0, []),
  (35, .aload_n 0, 1, 0, 0, 0, []),
  (36, .getfield 67, 3, 7, 5, 0, []),
  (39, .if_icmp .ge 38, 3, 0, 0, 0, [40]),
  (42, .lload 4, 2, 4, 0, 0, []),
  (44, .iload_n 3, 1, 3, 0, 0, []),
  (45, .iload 6, 2, 6, 0, 0, []),
  (47, .invokestatic 219, 3, 85, 2, 0, []),
  (50, .ifCond .eq 17, 3, 0, 0, 0, [35]),
  (53, .ldc2_w 222, 3, 0, 0, 1000000, []),
  (56, .aload_n 0, 1, 0, 0, 0, []),
  (57, .iload 6, 2, 6, 0, 0, []),
  (59, .invokevirtual 224, 3, 126, 1, 7, []),
  (62, .i2l, 1, 0, 0, 0, []),
  (63, .ldiv, 1, 0, 0, 0, []),
  (64, .goto 4, 3, 0, 0, 0, [36]),
  (67, .lconst 0, 1, 0, 0, 0, []),
  (68, .ladd, 1, 0, 0, 0, []),
  (69, .lstore 4, 2, 4, 0, 0, []),
  (71, .iinc 6 1, 3, 6, 0, 1, []),
  (74, .goto (-41), 3, 0, 0, 0, [19]),
  (77, .iload_n 3, 1, 3, 0, 0, []),
  (78, .iload_n 1, 1, 1, 0, 0, []),
  (79, .invokestatic 219, 3, 85, 2, 0, []),
  (82, .ifCond .eq 24, 3, 0, 0, 0, [56]),
  (85, .ldc2_w 222, 3, 0, 0, 1000000, []),
  (88, .aload_n 0, 1, 0, 0, 0, []),
  (89, .iload_n 1, 1, 1, 0, 0, []),
  (90, .invokevirtual 224, 3, 126, 1, 7, []),
  (93, .i2l, 1, 0, 0, 0, []),
  (94, .ldiv, 1, 0, 0, 0, []),
  (95, .ldc2_w 222, 3, 0, 0, 1000000, []),
  (98, .lmul, 1, 0, 0, 0, []),
  (99, .lload 4, 2, 4, 0, 0, []),
  (101, .ldiv, 1, 0, 0, 0, []),
  (102, .l2i, 1, 0, 0, 0, []),
  (103, .goto 4, 3, 0, 0, 0, [57]),
  (106, .iconst 0, 1, 0, 0, 0, []),
  (107, .ireturn, 1, 0, 0, 0, [])]
theorem gX7_odds : jchk 7 cX7_odds (some .int) 4 90 kX7_odds = true := by decide +kernel
def kX7_marks : List jI := [(0, .aload_n 0, 1, 0, 0, 0, []),
  (1, .iload_n 1, 1, 1, 0, 0, []),
  (2, .invokevirtual 169, 3, 89, 1, 7, []),
  (5, .ifCond .eq 11, 3, 0, 0, 0, [8]),
  (8, .aload_n 0, 1, 0, 0, 0, []),
  (9, .iload_n 1, 1, 1, 0, 0, []),
  (10, .invokevirtual 224, 3, 126, 1, 7, []),
  (13, .goto 5, 3, 0, 0, 0, [9]),
  (16, .ldc 172, 2, 0, 0, -1000000001, []),
  (18, .ireturn, 1, 0, 0, 0, [])]
theorem gX7_marks : jchk 7 cX7_marks (some .int) 2 47 kX7_marks = true := by decide +kernel
def kX7_between : List jI := [(0, .aload_n 0, 1, 0, 0, 0, []),
  (1, .getfield 7, 3, 7, 0, 0, []),
  (4, .iconst 2, 1, 0, 0, 2, []),
  (5, .iload_n 1, 1, 1, 0, 0, []),
  (6, .iadd, 1, 0, 0, 0, []),
  (7, .iaload, 1, 0, 0, 0, []),
  (8, .aload_n 0, 1, 0, 0, 0, []),
  (9, .getfield 7, 3, 7, 0, 0, []),
  (12, .iconst 2, 1, 0, 0, 2, []),
  (13, .iload_n 2, 1, 2, 0, 0, []),
  (14, .iadd, 1, 0, 0, 0, []),
  (15, .iaload, 1, 0, 0, 0, []),
  (16, .invokestatic 173, 3, 108, 2, 0, []),
  (19, .ireturn, 1, 0, 0, 0, [])]
theorem gX7_between : jchk 7 cX7_between (some .int) 2 44 kX7_between = true := by decide +kernel
def kX7_tree : List jI := [(0, .iconst 0, 1, 0, 0, 0, []),
  (1, .istore_n 2, 1, 2, 0, 0, []),
  (2, .iconst 0, 1, 0, 0, 0, []),
  (3, .istore_n 3, 1, 3, 0, 0, []),
  (4, .iconst 0, 1, 0, 0, 0, []),
  (5, .istore 4, 2, 4, 0, 0, []),
  (7, .iload 4, 2, 4, 0, 0, []),
  (9, .aload_n 0, 1, 0, 0, 0, []),
  (10, .getfield 67, 3, 7, 5, 0, []),
  (13, .if_icmp .ge 18, 3, 0, 0, 0, [17]),
  (16, .aload_n 0, 1, 0, 0, 0, []),
  (17, .getfield 45, 3, 7, 26, 0, []),
  (20, .iload 4, 2, 4, 0, 0, []),
  (22, .iload 4, 2, 4, 0, 0, []),
  (24, .iastore, 1, 0, 0, 0, []),
  (25, .iinc 4 1, 3, 4, 0, 1, []),
  (28, .goto (-21), 3, 0, 0, 0, [6]),
  (31, .iload_n 3, 1, 3, 0, 0, []),
  (32, .aload_n 0, 1, 0, 0, 0, []),
  (33, .getfield 67, 3, 7, 5, 0, []),
  (36, .iconst 1, 1, 0, 0, 1, []),
  (37, .isub, 1, 0, 0, 0, []),
  (38, .if_icmp .ge 225, 3, 0, 0, 0, [134]),
  (41, .iconst (-1), 1, 0, 0, -1, []),
  (42, .istore 4, 2, 4, 0, 0, []),
  (44, .iconst (-1), 1, 0, 0, -1, []),
  (45, .istore 5, 2, 5, 0, 0, []),
  (47, .ldc 227, 2, 0, 0, 1000000, []),
  (49, .istore 6, 2, 6, 0, 0, []),
  (51, .iconst 0, 1, 0, 0, 0, []),
  (52, .istore 7, 2, 7, 0, 0, []),
  (54, .iload 7, 2, 7, 0, 0, []),
  (56, .aload_n 0, 1, 0, 0, 0, []),
  (57, .getfield 67, 3, 7, 5, 0, []),
  (60, .if_icmp .ge 115, 3, 0, 0, 0, [87]),
  (63, .iload 7, 2, 7, 0, 0, []),
  (65, .iconst 1, 1, 0, 0, 1, []),
  (66, .iadd, 1, 0, 0, 0, []),
  (67, .istore 8, 2, 8, 0, 0, []),
  (69, .iload 8, 2, 8, 0, 0, []),
  (71, .aload_n 0, 1, 0, 0, 0, []),
  (72, .getfield 67, 3, 7, 5, 0, []),
  (75, .if_icmp .ge 94, 3, 0, 0, 0, [85]),
  (78, .aload_n 0, 1, 0, 0, 0, []),
  (79, .getfield 45, 3, 7, 26, 0, []),
  (82, .iload 7, 2, 7, 0, 0, []),
  (84, .iaload, 1, 0, 0, 0, []),
  (85, .aload_n 0, 1, 0, 0, 0, []),
  (86, .getfield 45, 3, 7, 26, 0, []),
  (89, .iload 8, 2, 8, 0, 0, []),
  (91, .iaload, 1, 0, 0, 0, []),
  (92, .if_icmp .eq 20, 3, 0, 0, 0, [60]),
  (95, .aload_n 0, 1, 0, 0, 0, []),
  (96, .iload 7, 2, 7, 0, 0, []),
  (98, .iload 8, 2, 8, 0, 0, []),
  (100, .invokevirtual 228, 3, 129, 2, 7, []),
  (103, .iload 6, 2, 6, 0, 0, []),
  (105, .if_icmp .ge 7, 3, 0, 0, 0, [60]),
  (108, .iconst 1, 1, 0, 0, 1, []),
  (109, .goto 4, 3, 0, 0, 0, [61]),
  (112, .iconst 0, 1, 0, 0, 0, []),
  (113, .istore 9, 2, 9, 0, 0, []),
  (115, .iload 9, 2, 9, 0, 0, []),
  (117, .ifCond .eq 8, 3, 0, 0, 0, [66]),
  (120, .iload 7, 2, 7, 0, 0, []),
  (122, .goto 5, 3, 0, 0, 0, [67]),
  (125, .iload 4, 2, 4, 0, 0, []),
  (127, .istore 4, 2, 4, 0, 0, []),
  (129, .iload 9, 2, 9, 0, 0, []),
  (131, .ifCond .eq 8, 3, 0, 0, 0, [72]),
  (134, .iload 8, 2, 8, 0, 0, []),
  (136, .goto 5, 3, 0, 0, 0, [73]),
  (139, .iload 5, 2, 5, 0, 0, []),
  (141, .istore 5, 2, 5, 0, 0, []),
  (143, .iload 9, 2, 9, 0, 0, []),
  (145, .ifCond .eq 14, 3, 0, 0, 0, [81]),
  (148, .aload_n 0, 1, 0, 0, 0, []),
  (149, .iload 7, 2, 7, 0, 0, []),
  (151, .iload 8, 2, 8, 0, 0, []),
  (153, .invokevirtual 228, 3, 129, 2, 7, []),
  (156, .goto 5, 3, 0, 0, 0, [82]),
  (159, .iload 6, 2, 6, 0, 0, []),
  (161, .istore 6, 2, 6, 0, 0, []),
  (163, .iinc 8 1, 3, 8, 0, 1, []),
  (166, .goto (-97), 3, 0, 0, 0, [39]),
  (169, .iinc 7 1, 3, 7, 0, 1, []),
  (172, .goto (-118), 3, 0, 0, 0, [31]),
  (175, .aload_n 0, 1, 0, 0, 0, []),
  (176, .getfield 45, 3, 7, 26, 0, []),
  (179, .iload 5, 2, 5, 0, 0, []),
  (181, .iaload, 1, 0, 0, 0, []),
  (182, .istore 7, 2, 7, 0, 0, []),
  (184, .iconst 0, 1, 0, 0, 0, []),
  (185, .istore 8, 2, 8, 0, 0, []),
  (187, .iload 8, 2, 8, 0, 0, []),
  (189, .aload_n 0, 1, 0, 0, 0, []),
  (190, .getfield 67, 3, 7, 5, 0, []),
  (193, .if_icmp .ge 45, 3, 0, 0, 0, [119]),
  (196, .aload_n 0, 1, 0, 0, 0, []),
  (197, .getfield 45, 3, 7, 26, 0, []),
  (200, .iload 8, 2, 8, 0, 0, []),
  (202, .aload_n 0, 1, 0, 0, 0, []),
  (203, .getfield 45, 3, 7, 26, 0, []),
  (206, .iload 8, 2, 8, 0, 0, []),
  (208, .iaload, 1, 0, 0, 0, []),
  (209, .iload 7, 2, 7, 0, 0, []),
  (211, .if_icmp .ne 13, 3, 0, 0, 0, [112]),
  (214, .aload_n 0, 1, 0, 0, 0, []),
  (215, .getfield 45, 3, 7, 26, 0, []),
  (218, .iload 4, 2, 4, 0, 0, []),
  (220, .iaload, 1, 0, 0, 0, []),
  (221, .goto 10, 3, 0, 0, 0, [116]),
  (224, .aload_n 0, 1, 0, 0, 0, []),
  (225, .getfield 45, 3, 7, 26, 0, []),
  (228, .iload 8, 2, 8, 0, 0, []),
  (230, .iaload, 1, 0, 0, 0, []),
  (231, .iastore, 1, 0, 0, 0, []),
  (232, .iinc 8 1, 3, 8, 0, 1, []),
  (235, .goto (-48), 3, 0, 0, 0, [94]),
  (238, .aload_n 0, 1, 0, 0, 0, []),
  (239, .getfield 42, 3, 7, 25, 0, []),
  (242, .iload_n 3, 1, 3, 0, 0, []),
  (243, .bipush 10, 2, 0, 0, 10, []),
  (245, .iload 4, 2, 4, 0, 0, []),
  (247, .imul, 1, 0, 0, 0, []),
  (248, .iload 5, 2, 5, 0, 0, []),
  (250, .iadd, 1, 0, 0, 0, []),
  (251, .iastore, 1, 0, 0, 0, []),
  (252, .iload_n 2, 1, 2, 0, 0, []),
  (253, .iload 6, 2, 6, 0, 0, []),
  (255, .iadd, 1, 0, 0, 0, []),
  (256, .istore_n 2, 1, 2, 0, 0, []),
  (257, .iinc 3 1, 3, 3, 0, 1, []),
  (260, .goto (-229), 3, 0, 0, 0, [17]),
  (263, .iload_n 1, 1, 1, 0, 0, []),
  (264, .iconst (-1), 1, 0, 0, -1, []),
  (265, .if_icmp .ne 7, 3, 0, 0, 0, [139]),
  (268, .iload_n 2, 1, 2, 0, 0, []),
  (269, .goto 26, 3, 0, 0, 0, [154]),
  (272, .iload_n 1, 1, 1, 0, 0, []),
  (273, .i2l, 1, 0, 0, 0, []),
  (274, .lconst 0, 1, 0, 0, 0, []),
  (275, .iload_n 3, 1, 3, 0, 0, []),
  (276, .iconst 1, 1, 0, 0, 1, []),
  (277, .isub, 1, 0, 0, 0, []),
  (278, .i2l, 1, 0, 0, 0, []),
  (279, .invokestatic 63, 3, 84, 3, 0, []),
  (282, .ifCond .eq 12, 3, 0, 0, 0, [153]),
  (285, .aload_n 0, 1, 0, 0, 0, []),
  (286, .getfield 42, 3, 7, 25, 0, []),
  (289, .iload_n 1, 1, 1, 0, 0, []),
  (290, .iaload, 1, 0, 0, 0, []),
  (291, .goto 4, 3, 0, 0, 0, [154]),
  (294, .iconst (-1), 1, 0, 0, -1, []),
  (295, .ireturn, 1, 0, 0, 0, [])]
theorem gX7_tree : jchk 7 cX7_tree (some .int) 3 66 kX7_tree = true := by decide +kernel
def kX7_kinOf : List jI := [(0, .iconst (-1), 1, 0, 0, -1, []),
  (1, .istore_n 2, 1, 2, 0, 0, []),
  (2, .iconst 0, 1, 0, 0, 0, []),
  (3, .istore_n 3, 1, 3, 0, 0, []),
  (4, .iload_n 3, 1, 3, 0, 0, []),
  (5, .aload_n 0, 1, 0, 0, 0, []),
  (6, .getfield 67, 3, 7, 5, 0, []),
  (9, .if_icmp .ge 40, 3, 0, 0, 0, [29]),
  (12, .iload_n 3, 1, 3, 0, 0, []),
  (13, .iload_n 1, 1, 1, 0, 0, []),
  (14, .if_icmp .eq 27, 3, 0, 0, 0, [25]),
  (17, .iload_n 2, 1, 2, 0, 0, []),
  (18, .iconst (-1), 1, 0, 0, -1, []),
  (19, .if_icmp .eq 18, 3, 0, 0, 0, [23]),
  (22, .aload_n 0, 1, 0, 0, 0, []),
  (23, .iload_n 1, 1, 1, 0, 0, []),
  (24, .iload_n 3, 1, 3, 0, 0, []),
  (25, .invokevirtual 228, 3, 129, 2, 7, []),
  (28, .aload_n 0, 1, 0, 0, 0, []),
  (29, .iload_n 1, 1, 1, 0, 0, []),
  (30, .iload_n 2, 1, 2, 0, 0, []),
  (31, .invokevirtual 228, 3, 129, 2, 7, []),
  (34, .if_icmp .ge 7, 3, 0, 0, 0, [25]),
  (37, .iload_n 3, 1, 3, 0, 0, []),
  (38, .goto 4, 3, 0, 0, 0, [26]),
  (41, .iload_n 2, 1, 2, 0, 0, []),
  (42, .istore_n 2, 1, 2, 0, 0, []),
  (43, .iinc 3 1, 3, 3, 0, 1, []),
  (46, .goto (-42), 3, 0, 0, 0, [4]),
  (49, .iload_n 2, 1, 2, 0, 0, []),
  (50, .ireturn, 1, 0, 0, 0, [])]
theorem gX7_kinOf : jchk 7 cX7_kinOf (some .int) 3 66 kX7_kinOf = true := by decide +kernel
def kX7_kin : List jI := [(0, .aload_n 0, 1, 0, 0, 0, []),
  (1, .iload_n 1, 1, 1, 0, 0, []),
  (2, .invokevirtual 169, 3, 89, 1, 7, []),
  (5, .ifCond .eq 11, 3, 0, 0, 0, [8]),
  (8, .aload_n 0, 1, 0, 0, 0, []),
  (9, .iload_n 1, 1, 1, 0, 0, []),
  (10, .invokevirtual 231, 3, 131, 1, 7, []),
  (13, .goto 5, 3, 0, 0, 0, [9]),
  (16, .ldc 172, 2, 0, 0, -1000000001, []),
  (18, .ireturn, 1, 0, 0, 0, [])]
theorem gX7_kin : jchk 7 cX7_kin (some .int) 4 89 kX7_kin = true := by decide +kernel
def kX7_areToldApart : List jI := [(0, .aload_n 0, 1, 0, 0, 0, []),
  (1, .getfield 7, 3, 7, 0, 0, []),
  (4, .iload_n 1, 1, 1, 0, 0, []),
  (5, .iconst 2, 1, 0, 0, 2, []),
  (6, .iadd, 1, 0, 0, 0, []),
  (7, .iload_n 2, 1, 2, 0, 0, []),
  (8, .iadd, 1, 0, 0, 0, []),
  (9, .iaload, 1, 0, 0, 0, []),
  (10, .aload_n 0, 1, 0, 0, 0, []),
  (11, .getfield 7, 3, 7, 0, 0, []),
  (14, .iload_n 1, 1, 1, 0, 0, []),
  (15, .iconst 2, 1, 0, 0, 2, []),
  (16, .iadd, 1, 0, 0, 0, []),
  (17, .iload_n 3, 1, 3, 0, 0, []),
  (18, .iadd, 1, 0, 0, 0, []),
  (19, .iaload, 1, 0, 0, 0, []),
  (20, .aload_n 0, 1, 0, 0, 0, []),
  (21, .getfield 17, 3, 7, 6, 0, []),
  (24, .iload_n 2, 1, 2, 0, 0, []),
  (25, .iaload, 1, 0, 0, 0, []),
  (26, .aload_n 0, 1, 0, 0, 0, []),
  (27, .getfield 17, 3, 7, 6, 0, []),
  (30, .iload_n 3, 1, 3, 0, 0, []),
  (31, .iaload, 1, 0, 0, 0, []),
  (32, .iadd, 1, 0, 0, 0, []),
  (33, .invokestatic 165, 3, 109, 3, 0, []),
  (36, .ifCond .ne 7, 3, 0, 0, 0, [29]),
  (39, .iconst 1, 1, 0, 0, 1, []),
  (40, .goto 4, 3, 0, 0, 0, [30]),
  (43, .iconst 0, 1, 0, 0, 0, []),
  (44, .ireturn, 1, 0, 0, 1, [])]
theorem gX7_areToldApart : jchk 7 cX7_areToldApart (some .boolean) 2 45 kX7_areToldApart = true := by decide +kernel
def kX7_most : List jI := [(0, .iconst 0, 1, 0, 0, 0, []),
  (1, .istore_n 1, 1, 1, 0, 0, []),
  (2, .iconst 0, 1, 0, 0, 0, []),
  (3, .istore_n 2, 1, 2, 0, 0, []),
  (4, .iload_n 2, 1, 2, 0, 0, []),
  (5, .iconst 1, 1, 0, 0, 1, []),
  (6, .aload_n 0, 1, 0, 0, 0, []),
  (7, .getfield 67, 3, 7, 5, 0, []),
  (10, .ishl, 1, 0, 0, 0, []),
  (11, .if_icmp .ge 119, 3, 0, 0, 0, [67]),
  (14, .iload_n 2, 1, 2, 0, 0, []),
  (15, .invokestatic 234, 3, 86, 1, 0, []),
  (18, .iload_n 1, 1, 1, 0, 0, []),
  (19, .invokestatic 234, 3, 86, 1, 0, []),
  (22, .if_icmp .le 7, 3, 0, 0, 0, [17]),
  (25, .iconst 1, 1, 0, 0, 1, []),
  (26, .goto 4, 3, 0, 0, 0, [18]),
  (29, .iconst 0, 1, 0, 0, 0, []),
  (30, .istore_n 3, 1, 3, 0, 0, []),
  (31, .iconst 0, 1, 0, 0, 0, []),
  (32, .istore 4, 2, 4, 0, 0, []),
  (34, .iload 4, 2, 4, 0, 0, []),
  (36, .aload_n 0, 1, 0, 0, 0, []),
  (37, .getfield 67, 3, 7, 5, 0, []),
  (40, .if_icmp .ge 74, 3, 0, 0, 0, [59]),
  (43, .iload_n 3, 1, 3, 0, 0, []),
  (44, .ifCond .eq 70, 3, 0, 0, 0, [59]),
  (47, .iload 4, 2, 4, 0, 0, []),
  (49, .iconst 1, 1, 0, 0, 1, []),
  (50, .iadd, 1, 0, 0, 0, []),
  (51, .istore 5, 2, 5, 0, 0, []),
  (53, .iload 5, 2, 5, 0, 0, []),
  (55, .aload_n 0, 1, 0, 0, 0, []),
  (56, .getfield 67, 3, 7, 5, 0, []),
  (59, .if_icmp .ge 49, 3, 0, 0, 0, [57]),
  (62, .iload_n 3, 1, 3, 0, 0, []),
  (63, .ifCond .eq 37, 3, 0, 0, 0, [53]),
  (66, .iload_n 2, 1, 2, 0, 0, []),
  (67, .iload 4, 2, 4, 0, 0, []),
  (69, .invokestatic 219, 3, 85, 2, 0, []),
  (72, .ifCond .eq 24, 3, 0, 0, 0, [51]),
  (75, .iload_n 2, 1, 2, 0, 0, []),
  (76, .iload 5, 2, 5, 0, 0, []),
  (78, .invokestatic 219, 3, 85, 2, 0, []),
  (81, .ifCond .eq 15, 3, 0, 0, 0, [51]),
  (84, .aload_n 0, 1, 0, 0, 0, []),
  (85, .iconst 0, 1, 0, 0, 0, []),
  (86, .iload 4, 2, 4, 0, 0, []),
  (88, .iload 5, 2, 5, 0, 0, []),
  (90, .invokevirtual 237, 3, 133, 3, 7, []),
  (93, .ifCond .eq 7, 3, 0, 0, 0, [53]),
  (96, .iconst 1, 1, 0, 0, 1, []),
  (97, .goto 4, 3, 0, 0, 0, [54]),
  (100, .iconst 0, 1, 0, 0, 0, []),
  (101, .istore_n 3, 1, 3, 0, 0, []),
  (102, .iinc 5 1, 3, 5, 0, 1, []),
  (105, .goto (-52), 3, 0, 0, 0, [31]),
  (108, .iinc 4 1, 3, 4, 0, 1, []),
  (111, .goto (-77), 3, 0, 0, 0, [21]),
  (114, .iload_n 3, 1, 3, 0, 0, []),
  (115, .ifCond .eq 7, 3, 0, 0, 0, [63]),
  (118, .iload_n 2, 1, 2, 0, 0, []),
  (119, .goto 4, 3, 0, 0, 0, [64]),
  (122, .iload_n 1, 1, 1, 0, 0, []),
  (123, .istore_n 1, 1, 1, 0, 0, []),
  (124, .iinc 2 1, 3, 2, 0, 1, []),
  (127, .goto (-123), 3, 0, 0, 0, [4]),
  (130, .iload_n 1, 1, 1, 0, 0, []),
  (131, .ireturn, 1, 0, 0, 0, [])]
theorem gX7_most : jchk 7 cX7_most (some .int) 3 68 kX7_most = true := by decide +kernel
def kX7_clash : List jI := [(0, .iconst 0, 1, 0, 0, 0, []),
  (1, .istore_n 1, 1, 1, 0, 0, []),
  (2, .iload_n 1, 1, 1, 0, 0, []),
  (3, .aload_n 0, 1, 0, 0, 0, []),
  (4, .getfield 67, 3, 7, 5, 0, []),
  (7, .if_icmp .ge 44, 3, 0, 0, 0, [30]),
  (10, .iload_n 1, 1, 1, 0, 0, []),
  (11, .iconst 1, 1, 0, 0, 1, []),
  (12, .iadd, 1, 0, 0, 0, []),
  (13, .istore_n 2, 1, 2, 0, 0, []),
  (14, .iload_n 2, 1, 2, 0, 0, []),
  (15, .aload_n 0, 1, 0, 0, 0, []),
  (16, .getfield 67, 3, 7, 5, 0, []),
  (19, .if_icmp .ge 26, 3, 0, 0, 0, [28]),
  (22, .aload_n 0, 1, 0, 0, 0, []),
  (23, .iconst 0, 1, 0, 0, 0, []),
  (24, .iload_n 1, 1, 1, 0, 0, []),
  (25, .iload_n 2, 1, 2, 0, 0, []),
  (26, .invokevirtual 237, 3, 133, 3, 7, []),
  (29, .ifCond .ne 10, 3, 0, 0, 0, [26]),
  (32, .bipush 10, 2, 0, 0, 10, []),
  (34, .iload_n 1, 1, 1, 0, 0, []),
  (35, .imul, 1, 0, 0, 0, []),
  (36, .iload_n 2, 1, 2, 0, 0, []),
  (37, .iadd, 1, 0, 0, 0, []),
  (38, .ireturn, 1, 0, 0, 0, []),
  (39, .iinc 2 1, 3, 2, 0, 1, []),
  (42, .goto (-28), 3, 0, 0, 0, [10]),
  (45, .iinc 1 1, 3, 1, 0, 1, []),
  (48, .goto (-46), 3, 0, 0, 0, [2]),
  (51, .iconst (-1), 1, 0, 0, -1, []),
  (52, .ireturn, 1, 0, 0, 0, [])]
theorem gX7_clash : jchk 7 cX7_clash (some .int) 3 68 kX7_clash = true := by decide +kernel
def kX7_forged : List jI := [(0, .iconst 0, 1, 0, 0, 0, []),
  (1, .istore_n 1, 1, 1, 0, 0, []),
  (2, .iconst 0, 1, 0, 0, 0, []),
  (3, .istore_n 2, 1, 2, 0, 0, []),
  (4, .iload_n 2, 1, 2, 0, 0, []),
  (5, .aload_n 0, 1, 0, 0, 0, []),
  (6, .getfield 7, 3, 7, 0, 0, []),
  (9, .iconst 1, 1, 0, 0, 1, []),
  (10, .iaload, 1, 0, 0, 0, []),
  (11, .if_icmp .ge 44, 3, 0, 0, 0, [35]),
  (14, .iload_n 1, 1, 1, 0, 0, []),
  (15, .aload_n 0, 1, 0, 0, 0, []),
  (16, .aload_n 0, 1, 0, 0, 0, []),
  (17, .getfield 7, 3, 7, 0, 0, []),
  (20, .bipush 10, 2, 0, 0, 10, []),
  (22, .iload_n 2, 1, 2, 0, 0, []),
  (23, .iadd, 1, 0, 0, 0, []),
  (24, .iaload, 1, 0, 0, 0, []),
  (25, .aload_n 0, 1, 0, 0, 0, []),
  (26, .getfield 7, 3, 7, 0, 0, []),
  (29, .bipush 18, 2, 0, 0, 18, []),
  (31, .iload_n 2, 1, 2, 0, 0, []),
  (32, .iadd, 1, 0, 0, 0, []),
  (33, .iaload, 1, 0, 0, 0, []),
  (34, .invokevirtual 213, 3, 110, 2, 7, []),
  (37, .ifCond .eq 7, 3, 0, 0, 0, [28]),
  (40, .iconst 0, 1, 0, 0, 0, []),
  (41, .goto 6, 3, 0, 0, 0, [31]),
  (44, .iconst 1, 1, 0, 0, 1, []),
  (45, .iload_n 2, 1, 2, 0, 0, []),
  (46, .ishl, 1, 0, 0, 0, []),
  (47, .ior, 1, 0, 0, 0, []),
  (48, .istore_n 1, 1, 1, 0, 0, []),
  (49, .iinc 2 1, 3, 2, 0, 1, []),
  (52, .goto (-48), 3, 0, 0, 0, [4]),
  (55, .iload_n 1, 1, 1, 0, 0, []),
  (56, .ireturn, 1, 0, 0, 0, [])]
theorem gX7_forged : jchk 7 cX7_forged (some .int) 3 67 kX7_forged = true := by decide +kernel
def kX7_makers : List jI := [(0, .aload_n 0, 1, 0, 0, 0, []),
  (1, .iload_n 1, 1, 1, 0, 0, []),
  (2, .invokevirtual 176, 3, 90, 1, 7, []),
  (5, .ifCond .eq 33, 3, 0, 0, 0, [24]),
  (8, .aload_n 0, 1, 0, 0, 0, []),
  (9, .aload_n 0, 1, 0, 0, 0, []),
  (10, .getfield 7, 3, 7, 0, 0, []),
  (13, .bipush 10, 2, 0, 0, 10, []),
  (15, .iload_n 1, 1, 1, 0, 0, []),
  (16, .iadd, 1, 0, 0, 0, []),
  (17, .iaload, 1, 0, 0, 0, []),
  (18, .invokevirtual 216, 3, 124, 1, 7, []),
  (21, .iconst 1, 1, 0, 0, 1, []),
  (22, .aload_n 0, 1, 0, 0, 0, []),
  (23, .getfield 7, 3, 7, 0, 0, []),
  (26, .bipush 18, 2, 0, 0, 18, []),
  (28, .iload_n 1, 1, 1, 0, 0, []),
  (29, .iadd, 1, 0, 0, 0, []),
  (30, .iaload, 1, 0, 0, 0, []),
  (31, .ishl, 1, 0, 0, 0, []),
  (32, .iconst (-1), 1, 0, 0, -1, []),
  (33, .ixor, 1, 0, 0, 0, []),
  (34, .iand, 1, 0, 0, 0, []),
  (35, .goto 5, 3, 0, 0, 0, [25]),
  (38, .ldc 172, 2, 0, 0, -1000000001, []),
  (40, .ireturn, 1, 0, 0, 0, [])]
theorem gX7_makers : jchk 7 cX7_makers (some .int) 4 90 kX7_makers = true := by decide +kernel
def kX7_heir : List jI := [(0, .iload_n 1, 1, 1, 0, 0, []),
  (1, .i2l, 1, 0, 0, 0, []),
  (2, .lconst 0, 1, 0, 0, 0, []),
  (3, .ldc2_w 187, 3, 0, 0, 60, []),
  (6, .invokestatic 63, 3, 84, 3, 0, []),
  (9, .ifCond .ne 6, 3, 0, 0, 0, [8]),
  (12, .ldc 75, 2, 0, 0, -1000000002, []),
  (14, .ireturn, 1, 0, 0, 0, []),
  (15, .aload_n 0, 1, 0, 0, 0, []),
  (16, .iconst 0, 1, 0, 0, 0, []),
  (17, .bipush 27, 2, 0, 0, 27, []),
  (19, .invokevirtual 182, 3, 87, 2, 7, []),
  (22, .iconst 0, 1, 0, 0, 0, []),
  (23, .istore_n 2, 1, 2, 0, 0, []),
  (24, .iload_n 2, 1, 2, 0, 0, []),
  (25, .iload_n 1, 1, 1, 0, 0, []),
  (26, .if_icmp .ge 15, 3, 0, 0, 0, [22]),
  (29, .aload_n 0, 1, 0, 0, 0, []),
  (30, .bipush 27, 2, 0, 0, 27, []),
  (32, .invokevirtual 192, 3, 116, 1, 7, []),
  (35, .iinc 2 1, 3, 2, 0, 1, []),
  (38, .goto (-14), 3, 0, 0, 0, [14]),
  (41, .iconst (-1), 1, 0, 0, -1, []),
  (42, .istore_n 2, 1, 2, 0, 0, []),
  (43, .iconst 0, 1, 0, 0, 0, []),
  (44, .istore_n 3, 1, 3, 0, 0, []),
  (45, .iload_n 3, 1, 3, 0, 0, []),
  (46, .aload_n 0, 1, 0, 0, 0, []),
  (47, .getfield 67, 3, 7, 5, 0, []),
  (50, .if_icmp .ge 55, 3, 0, 0, 0, [58]),
  (53, .iload_n 2, 1, 2, 0, 0, []),
  (54, .iconst (-1), 1, 0, 0, -1, []),
  (55, .if_icmp .eq 38, 3, 0, 0, 0, [52]),
  (58, .aload_n 0, 1, 0, 0, 0, []),
  (59, .getfield 7, 3, 7, 0, 0, []),
  (62, .bipush 29, 2, 0, 0, 29, []),
  (64, .iload_n 3, 1, 3, 0, 0, []),
  (65, .iadd, 1, 0, 0, 0, []),
  (66, .iaload, 1, 0, 0, 0, []),
  (67, .aload_n 0, 1, 0, 0, 0, []),
  (68, .getfield 146, 3, 7, 4, 0, []),
  (71, .invokestatic 173, 3, 108, 2, 0, []),
  (74, .aload_n 0, 1, 0, 0, 0, []),
  (75, .getfield 7, 3, 7, 0, 0, []),
  (78, .bipush 29, 2, 0, 0, 29, []),
  (80, .iload_n 2, 1, 2, 0, 0, []),
  (81, .iadd, 1, 0, 0, 0, []),
  (82, .iaload, 1, 0, 0, 0, []),
  (83, .aload_n 0, 1, 0, 0, 0, []),
  (84, .getfield 146, 3, 7, 4, 0, []),
  (87, .invokestatic 173, 3, 108, 2, 0, []),
  (90, .if_icmp .ge 7, 3, 0, 0, 0, [54]),
  (93, .iload_n 3, 1, 3, 0, 0, []),
  (94, .goto 4, 3, 0, 0, 0, [55]),
  (97, .iload_n 2, 1, 2, 0, 0, []),
  (98, .istore_n 2, 1, 2, 0, 0, []),
  (99, .iinc 3 1, 3, 3, 0, 1, []),
  (102, .goto (-57), 3, 0, 0, 0, [26]),
  (105, .iload_n 2, 1, 2, 0, 0, []),
  (106, .ireturn, 1, 0, 0, 0, [])]
theorem gX7_heir : jchk 7 cX7_heir (some .int) 2 48 kX7_heir = true := by decide +kernel
def kX7_sham : List jI := [(0, .aload_n 0, 1, 0, 0, 0, []),
  (1, .iload_n 1, 1, 1, 0, 0, []),
  (2, .invokevirtual 169, 3, 89, 1, 7, []),
  (5, .ifCond .ne 6, 3, 0, 0, 0, [6]),
  (8, .ldc 172, 2, 0, 0, -1000000001, []),
  (10, .ireturn, 1, 0, 0, 0, []),
  (11, .ldc 227, 2, 0, 0, 1000000, []),
  (13, .istore_n 2, 1, 2, 0, 0, []),
  (14, .iconst 0, 1, 0, 0, 0, []),
  (15, .istore_n 3, 1, 3, 0, 0, []),
  (16, .iload_n 3, 1, 3, 0, 0, []),
  (17, .aload_n 0, 1, 0, 0, 0, []),
  (18, .getfield 67, 3, 7, 5, 0, []),
  (21, .if_icmp .ge 55, 3, 0, 0, 0, [43]),
  (24, .aload_n 0, 1, 0, 0, 0, []),
  (25, .getfield 7, 3, 7, 0, 0, []),
  (28, .iconst 2, 1, 0, 0, 2, []),
  (29, .iload_n 3, 1, 3, 0, 0, []),
  (30, .iadd, 1, 0, 0, 0, []),
  (31, .iaload, 1, 0, 0, 0, []),
  (32, .aload_n 0, 1, 0, 0, 0, []),
  (33, .getfield 146, 3, 7, 4, 0, []),
  (36, .invokestatic 173, 3, 108, 2, 0, []),
  (39, .iload_n 3, 1, 3, 0, 0, []),
  (40, .iload_n 1, 1, 1, 0, 0, []),
  (41, .if_icmp .ge 7, 3, 0, 0, 0, [28]),
  (44, .iconst 1, 1, 0, 0, 1, []),
  (45, .goto 4, 3, 0, 0, 0, [29]),
  (48, .iconst 0, 1, 0, 0, 0, []),
  (49, .isub, 1, 0, 0, 0, []),
  (50, .istore 4, 2, 4, 0, 0, []),
  (52, .iload_n 3, 1, 3, 0, 0, []),
  (53, .iload_n 1, 1, 1, 0, 0, []),
  (54, .if_icmp .eq 14, 3, 0, 0, 0, [39]),
  (57, .iload 4, 2, 4, 0, 0, []),
  (59, .iload_n 2, 1, 2, 0, 0, []),
  (60, .if_icmp .ge 8, 3, 0, 0, 0, [39]),
  (63, .iload 4, 2, 4, 0, 0, []),
  (65, .goto 4, 3, 0, 0, 0, [40]),
  (68, .iload_n 2, 1, 2, 0, 0, []),
  (69, .istore_n 2, 1, 2, 0, 0, []),
  (70, .iinc 3 1, 3, 3, 0, 1, []),
  (73, .goto (-57), 3, 0, 0, 0, [10]),
  (76, .aload_n 0, 1, 0, 0, 0, []),
  (77, .getfield 7, 3, 7, 0, 0, []),
  (80, .iconst 2, 1, 0, 0, 2, []),
  (81, .iload_n 1, 1, 1, 0, 0, []),
  (82, .iadd, 1, 0, 0, 0, []),
  (83, .iaload, 1, 0, 0, 0, []),
  (84, .aload_n 0, 1, 0, 0, 0, []),
  (85, .getfield 146, 3, 7, 4, 0, []),
  (88, .invokestatic 173, 3, 108, 2, 0, []),
  (91, .istore_n 3, 1, 3, 0, 0, []),
  (92, .iload_n 2, 1, 2, 0, 0, []),
  (93, .ifCond .ge 7, 3, 0, 0, 0, [57]),
  (96, .iconst (-1), 1, 0, 0, -1, []),
  (97, .goto 15, 3, 0, 0, 0, [65]),
  (100, .iload_n 3, 1, 3, 0, 0, []),
  (101, .iload_n 2, 1, 2, 0, 0, []),
  (102, .if_icmp .le 9, 3, 0, 0, 0, [64]),
  (105, .iload_n 3, 1, 3, 0, 0, []),
  (106, .iload_n 2, 1, 2, 0, 0, []),
  (107, .isub, 1, 0, 0, 0, []),
  (108, .goto 4, 3, 0, 0, 0, [65]),
  (111, .iconst 0, 1, 0, 0, 0, []),
  (112, .ireturn, 1, 0, 0, 0, [])]
theorem gX7_sham : jchk 7 cX7_sham (some .int) 2 46 kX7_sham = true := by decide +kernel
end
section
/-! THE CODE of the methods, with what each instruction needs; checked against the bytes -/
def kX7_love : List jI := [(0, .iconst 0, 1, 0, 0, 0, []),
  (1, .istore_n 2, 1, 2, 0, 0, []),
  (2, .iconst 0, 1, 0, 0, 0, []),
  (3, .istore_n 3, 1, 3, 0, 0, []),
  (4, .iload_n 3, 1, 3, 0, 0, []),
  (5, .aload_n 0, 1, 0, 0, 0, []),
  (6, .getfield 67, 3, 7, 5, 0, []),
  (9, .if_icmp .ge 48, 3, 0, 0, 0, [32]),
  (12, .aload_n 0, 1, 0, 0, 0, []),
  (13, .iload_n 3, 1, 3, 0, 0, []),
  (14, .invokevirtual 231, 3, 131, 1, 7, []),
  (17, .istore 4, 2, 4, 0, 0, []),
  (19, .iload 4, 2, 4, 0, 0, []),
  (21, .iload_n 3, 1, 3, 0, 0, []),
  (22, .if_icmp .le 29, 3, 0, 0, 0, [30]),
  (25, .aload_n 0, 1, 0, 0, 0, []),
  (26, .iload 4, 2, 4, 0, 0, []),
  (28, .invokevirtual 231, 3, 131, 1, 7, []),
  (31, .iload_n 3, 1, 3, 0, 0, []),
  (32, .if_icmp .ne 19, 3, 0, 0, 0, [30]),
  (35, .iload_n 2, 1, 2, 0, 0, []),
  (36, .iload_n 1, 1, 1, 0, 0, []),
  (37, .if_icmp .ne 11, 3, 0, 0, 0, [29]),
  (40, .bipush 10, 2, 0, 0, 10, []),
  (42, .iload_n 3, 1, 3, 0, 0, []),
  (43, .imul, 1, 0, 0, 0, []),
  (44, .iload 4, 2, 4, 0, 0, []),
  (46, .iadd, 1, 0, 0, 0, []),
  (47, .ireturn, 1, 0, 0, 0, []),
  (48, .iinc 2 1, 3, 2, 0, 1, []),
  (51, .iinc 3 1, 3, 3, 0, 1, []),
  (54, .goto (-50), 3, 0, 0, 0, [4]),
  (57, .iload_n 1, 1, 1, 0, 0, []),
  (58, .iconst (-1), 1, 0, 0, -1, []),
  (59, .if_icmp .ne 7, 3, 0, 0, 0, [37]),
  (62, .iload_n 2, 1, 2, 0, 0, []),
  (63, .goto 4, 3, 0, 0, 0, [38]),
  (66, .iconst (-1), 1, 0, 0, -1, []),
  (67, .ireturn, 1, 0, 0, 0, [])]
theorem gX7_love : jchk 7 cX7_love (some .int) 4 89 kX7_love = true := by decide +kernel
def kX7_voteOf : List jI := [(0, .iconst (-1), 1, 0, 0, -1, []),
  (1, .istore_n 2, 1, 2, 0, 0, []),
  (2, .iconst 0, 1, 0, 0, 0, []),
  (3, .istore_n 3, 1, 3, 0, 0, []),
  (4, .iload_n 3, 1, 3, 0, 0, []),
  (5, .aload_n 0, 1, 0, 0, 0, []),
  (6, .getfield 70, 3, 7, 8, 0, []),
  (9, .if_icmp .ge 43, 3, 0, 0, 0, [30]),
  (12, .iload_n 2, 1, 2, 0, 0, []),
  (13, .iconst (-1), 1, 0, 0, -1, []),
  (14, .if_icmp .eq 26, 3, 0, 0, 0, [24]),
  (17, .iload_n 1, 1, 1, 0, 0, []),
  (18, .aload_n 0, 1, 0, 0, 0, []),
  (19, .getfield 23, 3, 7, 9, 0, []),
  (22, .iload_n 3, 1, 3, 0, 0, []),
  (23, .iaload, 1, 0, 0, 0, []),
  (24, .invokestatic 173, 3, 108, 2, 0, []),
  (27, .iload_n 1, 1, 1, 0, 0, []),
  (28, .aload_n 0, 1, 0, 0, 0, []),
  (29, .getfield 23, 3, 7, 9, 0, []),
  (32, .iload_n 2, 1, 2, 0, 0, []),
  (33, .iaload, 1, 0, 0, 0, []),
  (34, .invokestatic 173, 3, 108, 2, 0, []),
  (37, .if_icmp .ge 7, 3, 0, 0, 0, [26]),
  (40, .iload_n 3, 1, 3, 0, 0, []),
  (41, .goto 4, 3, 0, 0, 0, [27]),
  (44, .iload_n 2, 1, 2, 0, 0, []),
  (45, .istore_n 2, 1, 2, 0, 0, []),
  (46, .iinc 3 1, 3, 3, 0, 1, []),
  (49, .goto (-45), 3, 0, 0, 0, [4]),
  (52, .iload_n 2, 1, 2, 0, 0, []),
  (53, .ireturn, 1, 0, 0, 0, [])]
theorem gX7_voteOf : jchk 7 cX7_voteOf (some .int) 2 44 kX7_voteOf = true := by decide +kernel
def kX7_vote : List jI := [(0, .iload_n 1, 1, 1, 0, 0, []),
  (1, .invokestatic 196, 3, 88, 1, 0, []),
  (4, .ifCond .eq 11, 3, 0, 0, 0, [7]),
  (7, .aload_n 0, 1, 0, 0, 0, []),
  (8, .iload_n 1, 1, 1, 0, 0, []),
  (9, .invokevirtual 240, 3, 141, 1, 7, []),
  (12, .goto 5, 3, 0, 0, 0, [8]),
  (15, .ldc 75, 2, 0, 0, -1000000002, []),
  (17, .ireturn, 1, 0, 0, 0, [])]
theorem gX7_vote : jchk 7 cX7_vote (some .int) 3 67 kX7_vote = true := by decide +kernel
def kX7_turned : List jI := [(0, .aload_n 0, 1, 0, 0, 0, []),
  (1, .iload_n 2, 1, 2, 0, 0, []),
  (2, .invokevirtual 179, 3, 91, 1, 7, []),
  (5, .ifCond .ne 6, 3, 0, 0, 0, [6]),
  (8, .ldc 172, 2, 0, 0, -1000000001, []),
  (10, .ireturn, 1, 0, 0, 0, []),
  (11, .iload_n 1, 1, 1, 0, 0, []),
  (12, .invokestatic 196, 3, 88, 1, 0, []),
  (15, .ifCond .ne 6, 3, 0, 0, 0, [11]),
  (18, .ldc 75, 2, 0, 0, -1000000002, []),
  (20, .ireturn, 1, 0, 0, 0, []),
  (21, .ldc 227, 2, 0, 0, 1000000, []),
  (23, .istore_n 3, 1, 3, 0, 0, []),
  (24, .iconst 0, 1, 0, 0, 0, []),
  (25, .istore 4, 2, 4, 0, 0, []),
  (27, .iload 4, 2, 4, 0, 0, []),
  (29, .sipush 1000, 3, 0, 0, 1000, []),
  (32, .if_icmp .ge 40, 3, 0, 0, 0, [36]),
  (35, .iload_n 1, 1, 1, 0, 0, []),
  (36, .iload 4, 2, 4, 0, 0, []),
  (38, .invokestatic 173, 3, 108, 2, 0, []),
  (41, .istore 5, 2, 5, 0, 0, []),
  (43, .iload 5, 2, 5, 0, 0, []),
  (45, .iload_n 3, 1, 3, 0, 0, []),
  (46, .if_icmp .ge 18, 3, 0, 0, 0, [32]),
  (49, .aload_n 0, 1, 0, 0, 0, []),
  (50, .iload 4, 2, 4, 0, 0, []),
  (52, .invokevirtual 240, 3, 141, 1, 7, []),
  (55, .iload_n 2, 1, 2, 0, 0, []),
  (56, .if_icmp .ne 8, 3, 0, 0, 0, [32]),
  (59, .iload 5, 2, 5, 0, 0, []),
  (61, .goto 4, 3, 0, 0, 0, [33]),
  (64, .iload_n 3, 1, 3, 0, 0, []),
  (65, .istore_n 3, 1, 3, 0, 0, []),
  (66, .iinc 4 1, 3, 4, 0, 1, []),
  (69, .goto (-42), 3, 0, 0, 0, [15]),
  (72, .iload_n 3, 1, 3, 0, 0, []),
  (73, .ldc 227, 2, 0, 0, 1000000, []),
  (75, .if_icmp .ne 7, 3, 0, 0, 0, [41]),
  (78, .iconst (-1), 1, 0, 0, -1, []),
  (79, .goto 4, 3, 0, 0, 0, [42]),
  (82, .iload_n 3, 1, 3, 0, 0, []),
  (83, .ireturn, 1, 0, 0, 0, [])]
theorem gX7_turned : jchk 7 cX7_turned (some .int) 3 67 kX7_turned = true := by decide +kernel
def kX7_one : List jI := [(0, .aload_n 0, 1, 0, 0, 0, []),
  (1, .iload_n 1, 1, 1, 0, 0, []),
  (2, .invokevirtual 169, 3, 89, 1, 7, []),
  (5, .ifCond .eq 16, 3, 0, 0, 0, [11]),
  (8, .aload_n 0, 1, 0, 0, 0, []),
  (9, .iload_n 2, 1, 2, 0, 0, []),
  (10, .invokevirtual 169, 3, 89, 1, 7, []),
  (13, .ifCond .eq 8, 3, 0, 0, 0, [11]),
  (16, .iload_n 1, 1, 1, 0, 0, []),
  (17, .iload_n 2, 1, 2, 0, 0, []),
  (18, .if_icmp .ne 6, 3, 0, 0, 0, [13]),
  (21, .ldc 172, 2, 0, 0, -1000000001, []),
  (23, .ireturn, 1, 0, 0, 0, []),
  (24, .aload_n 0, 1, 0, 0, 0, []),
  (25, .iconst 0, 1, 0, 0, 0, []),
  (26, .bipush 27, 2, 0, 0, 27, []),
  (28, .invokevirtual 182, 3, 87, 2, 7, []),
  (31, .iconst 0, 1, 0, 0, 0, []),
  (32, .istore_n 3, 1, 3, 0, 0, []),
  (33, .iload_n 3, 1, 3, 0, 0, []),
  (34, .bipush 60, 2, 0, 0, 60, []),
  (36, .if_icmp .gt 28, 3, 0, 0, 0, [35]),
  (39, .aload_n 0, 1, 0, 0, 0, []),
  (40, .bipush 27, 2, 0, 0, 27, []),
  (42, .iload_n 1, 1, 1, 0, 0, []),
  (43, .iload_n 2, 1, 2, 0, 0, []),
  (44, .invokevirtual 237, 3, 133, 3, 7, []),
  (47, .ifCond .ne 5, 3, 0, 0, 0, [30]),
  (50, .iload_n 3, 1, 3, 0, 0, []),
  (51, .ireturn, 1, 0, 0, 0, []),
  (52, .aload_n 0, 1, 0, 0, 0, []),
  (53, .bipush 27, 2, 0, 0, 27, []),
  (55, .invokevirtual 192, 3, 116, 1, 7, []),
  (58, .iinc 3 1, 3, 3, 0, 1, []),
  (61, .goto (-28), 3, 0, 0, 0, [19]),
  (64, .iconst (-1), 1, 0, 0, -1, []),
  (65, .ireturn, 1, 0, 0, 0, [])]
theorem gX7_one : jchk 7 cX7_one (some .int) 3 68 kX7_one = true := by decide +kernel
def kX7_see : List jI := [(0, .iload_n 1, 1, 1, 0, 0, []),
  (1, .invokestatic 196, 3, 88, 1, 0, []),
  (4, .ifCond .ne 6, 3, 0, 0, 0, [5]),
  (7, .ldc 75, 2, 0, 0, -1000000002, []),
  (9, .ireturn, 1, 0, 0, 0, []),
  (10, .aload_n 0, 1, 0, 0, 0, []),
  (11, .getfield 149, 3, 7, 27, 0, []),
  (14, .bipush 8, 2, 0, 0, 8, []),
  (16, .if_icmp .ne 6, 3, 0, 0, 0, [11]),
  (19, .ldc 79, 2, 0, 0, -1000000004, []),
  (21, .ireturn, 1, 0, 0, 0, []),
  (22, .aload_n 0, 1, 0, 0, 0, []),
  (23, .getfield 48, 3, 7, 28, 0, []),
  (26, .aload_n 0, 1, 0, 0, 0, []),
  (27, .getfield 149, 3, 7, 27, 0, []),
  (30, .iload_n 1, 1, 1, 0, 0, []),
  (31, .iastore, 1, 0, 0, 0, []),
  (32, .aload_n 0, 1, 0, 0, 0, []),
  (33, .dup, 1, 0, 0, 0, []),
  (34, .getfield 149, 3, 7, 27, 0, []),
  (37, .iconst 1, 1, 0, 0, 1, []),
  (38, .iadd, 1, 0, 0, 0, []),
  (39, .putfield 149, 3, 7, 27, 0, []),
  (42, .aload_n 0, 1, 0, 0, 0, []),
  (43, .getfield 149, 3, 7, 27, 0, []),
  (46, .ireturn, 1, 0, 0, 0, [])]
theorem gX7_see : jchk 7 cX7_see (some .int) 2 45 kX7_see = true := by decide +kernel
def kX7_makersOfSeen : List jI := [(0, .iconst 1, 1, 0, 0, 1, []),
  (1, .aload_n 0, 1, 0, 0, 0, []),
  (2, .getfield 67, 3, 7, 5, 0, []),
  (5, .ishl, 1, 0, 0, 0, []),
  (6, .iconst 1, 1, 0, 0, 1, []),
  (7, .isub, 1, 0, 0, 0, []),
  (8, .istore_n 1, 1, 1, 0, 0, []),
  (9, .iconst 0, 1, 0, 0, 0, []),
  (10, .istore_n 2, 1, 2, 0, 0, []),
  (11, .iload_n 2, 1, 2, 0, 0, []),
  (12, .aload_n 0, 1, 0, 0, 0, []),
  (13, .getfield 149, 3, 7, 27, 0, []),
  (16, .if_icmp .ge 22, 3, 0, 0, 0, [24]),
  (19, .iload_n 1, 1, 1, 0, 0, []),
  (20, .aload_n 0, 1, 0, 0, 0, []),
  (21, .aload_n 0, 1, 0, 0, 0, []),
  (22, .getfield 48, 3, 7, 28, 0, []),
  (25, .iload_n 2, 1, 2, 0, 0, []),
  (26, .iaload, 1, 0, 0, 0, []),
  (27, .invokevirtual 216, 3, 124, 1, 7, []),
  (30, .iand, 1, 0, 0, 0, []),
  (31, .istore_n 1, 1, 1, 0, 0, []),
  (32, .iinc 2 1, 3, 2, 0, 1, []),
  (35, .goto (-24), 3, 0, 0, 0, [9]),
  (38, .iload_n 1, 1, 1, 0, 0, []),
  (39, .ireturn, 1, 0, 0, 0, [])]
theorem gX7_makersOfSeen : jchk 7 cX7_makersOfSeen (some .int) 4 90 kX7_makersOfSeen = true := by decide +kernel
def kX7_madeBy : List jI := [(0, .aload_n 0, 1, 0, 0, 0, []),
  (1, .invokevirtual 243, 3, 146, 0, 7, []),
  (4, .ireturn, 1, 0, 0, 0, [])]
theorem gX7_madeBy : jchk 7 cX7_madeBy (some .int) 5 112 kX7_madeBy = true := by decide +kernel
def kX7_lookAt : List jI := [(0, .aload_n 0, 1, 0, 0, 0, []),
  (1, .invokevirtual 243, 3, 146, 0, 7, []),
  (4, .istore_n 1, 1, 1, 0, 0, []),
  (5, .iconst (-1), 1, 0, 0, -1, []),
  (6, .istore_n 2, 1, 2, 0, 0, []),
  (7, .iload_n 1, 1, 1, 0, 0, []),
  (8, .invokestatic 234, 3, 86, 1, 0, []),
  (11, .istore_n 3, 1, 3, 0, 0, []),
  (12, .iconst 0, 1, 0, 0, 0, []),
  (13, .istore 4, 2, 4, 0, 0, []),
  (15, .iload 4, 2, 4, 0, 0, []),
  (17, .iconst 3, 1, 0, 0, 3, []),
  (18, .if_icmp .ge 129, 3, 0, 0, 0, [75]),
  (21, .iconst 0, 1, 0, 0, 0, []),
  (22, .istore 5, 2, 5, 0, 0, []),
  (24, .iconst 0, 1, 0, 0, 0, []),
  (25, .istore 6, 2, 6, 0, 0, []),
  (27, .iload 6, 2, 6, 0, 0, []),
  (29, .bipush 10, 2, 0, 0, 10, []),
  (31, .if_icmp .ge 84, 3, 0, 0, 0, [59]),
  (34, .iconst 0, 1, 0, 0, 0, []),
  (35, .istore 7, 2, 7, 0, 0, []),
  (37, .iconst 0, 1, 0, 0, 0, []),
  (38, .istore 8, 2, 8, 0, 0, []),
  (40, .iload 8, 2, 8, 0, 0, []),
  (42, .aload_n 0, 1, 0, 0, 0, []),
  (43, .getfield 67, 3, 7, 5, 0, []),
  (46, .if_icmp .ge 47, 3, 0, 0, 0, [50]),
  (49, .iload 7, 2, 7, 0, 0, []),
  (51, .iload_n 1, 1, 1, 0, 0, []),
  (52, .iload 8, 2, 8, 0, 0, []),
  (54, .invokestatic 219, 3, 85, 2, 0, []),
  (57, .ifCond .eq 26, 3, 0, 0, 0, [45]),
  (60, .aload_n 0, 1, 0, 0, 0, []),
  (61, .getfield 7, 3, 7, 0, 0, []),
  (64, .iconst 2, 1, 0, 0, 2, []),
  (65, .iload 8, 2, 8, 0, 0, []),
  (67, .iadd, 1, 0, 0, 0, []),
  (68, .iaload, 1, 0, 0, 0, []),
  (69, .iload 4, 2, 4, 0, 0, []),
  (71, .invokestatic 158, 3, 106, 2, 0, []),
  (74, .iload 6, 2, 6, 0, 0, []),
  (76, .if_icmp .ne 7, 3, 0, 0, 0, [45]),
  (79, .iconst 1, 1, 0, 0, 1, []),
  (80, .goto 4, 3, 0, 0, 0, [46]),
  (83, .iconst 0, 1, 0, 0, 0, []),
  (84, .iadd, 1, 0, 0, 0, []),
  (85, .istore 7, 2, 7, 0, 0, []),
  (87, .iinc 8 1, 3, 8, 0, 1, []),
  (90, .goto (-50), 3, 0, 0, 0, [24]),
  (93, .iload 7, 2, 7, 0, 0, []),
  (95, .iload 5, 2, 5, 0, 0, []),
  (97, .if_icmp .le 8, 3, 0, 0, 0, [55]),
  (100, .iload 7, 2, 7, 0, 0, []),
  (102, .goto 5, 3, 0, 0, 0, [56]),
  (105, .iload 5, 2, 5, 0, 0, []),
  (107, .istore 5, 2, 5, 0, 0, []),
  (109, .iinc 6 1, 3, 6, 0, 1, []),
  (112, .goto (-85), 3, 0, 0, 0, [17]),
  (115, .iload 5, 2, 5, 0, 0, []),
  (117, .iload_n 3, 1, 3, 0, 0, []),
  (118, .if_icmp .ge 8, 3, 0, 0, 0, [64]),
  (121, .iload 4, 2, 4, 0, 0, []),
  (123, .goto 4, 3, 0, 0, 0, [65]),
  (126, .iload_n 2, 1, 2, 0, 0, []),
  (127, .istore_n 2, 1, 2, 0, 0, []),
  (128, .iload 5, 2, 5, 0, 0, []),
  (130, .iload_n 3, 1, 3, 0, 0, []),
  (131, .if_icmp .ge 8, 3, 0, 0, 0, [71]),
  (134, .iload 5, 2, 5, 0, 0, []),
  (136, .goto 4, 3, 0, 0, 0, [72]),
  (139, .iload_n 3, 1, 3, 0, 0, []),
  (140, .istore_n 3, 1, 3, 0, 0, []),
  (141, .iinc 4 1, 3, 4, 0, 1, []),
  (144, .goto (-129), 3, 0, 0, 0, [10]),
  (147, .iload_n 2, 1, 2, 0, 0, []),
  (148, .ireturn, 1, 0, 0, 0, [])]
theorem gX7_lookAt : jchk 7 cX7_lookAt (some .int) 5 112 kX7_lookAt = true := by decide +kernel
def kX7_write : List jI := [(0, .aload_n 0, 1, 0, 0, 0, []),
  (1, .iload_n 1, 1, 1, 0, 0, []),
  (2, .invokevirtual 169, 3, 89, 1, 7, []),
  (5, .ifCond .ne 6, 3, 0, 0, 0, [6]),
  (8, .ldc 172, 2, 0, 0, -1000000001, []),
  (10, .ireturn, 1, 0, 0, 0, []),
  (11, .iload_n 2, 1, 2, 0, 0, []),
  (12, .invokestatic 196, 3, 88, 1, 0, []),
  (15, .ifCond .ne 6, 3, 0, 0, 0, [11]),
  (18, .ldc 75, 2, 0, 0, -1000000002, []),
  (20, .ireturn, 1, 0, 0, 0, []),
  (21, .aload_n 0, 1, 0, 0, 0, []),
  (22, .getfield 152, 3, 7, 29, 0, []),
  (25, .bipush 15, 2, 0, 0, 15, []),
  (27, .if_icmp .ne 6, 3, 0, 0, 0, [17]),
  (30, .ldc 79, 2, 0, 0, -1000000004, []),
  (32, .ireturn, 1, 0, 0, 0, []),
  (33, .aload_n 0, 1, 0, 0, 0, []),
  (34, .getfield 51, 3, 7, 30, 0, []),
  (37, .aload_n 0, 1, 0, 0, 0, []),
  (38, .getfield 152, 3, 7, 29, 0, []),
  (41, .iload_n 1, 1, 1, 0, 0, []),
  (42, .iastore, 1, 0, 0, 0, []),
  (43, .aload_n 0, 1, 0, 0, 0, []),
  (44, .getfield 54, 3, 7, 31, 0, []),
  (47, .aload_n 0, 1, 0, 0, 0, []),
  (48, .getfield 152, 3, 7, 29, 0, []),
  (51, .iload_n 2, 1, 2, 0, 0, []),
  (52, .iastore, 1, 0, 0, 0, []),
  (53, .aload_n 0, 1, 0, 0, 0, []),
  (54, .dup, 1, 0, 0, 0, []),
  (55, .getfield 152, 3, 7, 29, 0, []),
  (58, .iconst 1, 1, 0, 0, 1, []),
  (59, .iadd, 1, 0, 0, 0, []),
  (60, .putfield 152, 3, 7, 29, 0, []),
  (63, .aload_n 0, 1, 0, 0, 0, []),
  (64, .getfield 152, 3, 7, 29, 0, []),
  (67, .ireturn, 1, 0, 0, 0, [])]
theorem gX7_write : jchk 7 cX7_write (some .int) 2 46 kX7_write = true := by decide +kernel
def kX7_tear : List jI := [(0, .aload_n 0, 1, 0, 0, 0, []),
  (1, .getfield 149, 3, 7, 27, 0, []),
  (4, .aload_n 0, 1, 0, 0, 0, []),
  (5, .getfield 152, 3, 7, 29, 0, []),
  (8, .iadd, 1, 0, 0, 0, []),
  (9, .istore_n 1, 1, 1, 0, 0, []),
  (10, .aload_n 0, 1, 0, 0, 0, []),
  (11, .iconst 0, 1, 0, 0, 0, []),
  (12, .putfield 149, 3, 7, 27, 0, []),
  (15, .aload_n 0, 1, 0, 0, 0, []),
  (16, .iconst 0, 1, 0, 0, 0, []),
  (17, .putfield 152, 3, 7, 29, 0, []),
  (20, .iload_n 1, 1, 1, 0, 0, []),
  (21, .ireturn, 1, 0, 0, 0, [])]
theorem gX7_tear : jchk 7 cX7_tear (some .int) 0 0 kX7_tear = true := by decide +kernel
def kX7_judge : List jI := [(0, .iconst 0, 1, 0, 0, 0, []),
  (1, .istore_n 1, 1, 1, 0, 0, []),
  (2, .iload_n 1, 1, 1, 0, 0, []),
  (3, .aload_n 0, 1, 0, 0, 0, []),
  (4, .getfield 152, 3, 7, 29, 0, []),
  (7, .if_icmp .ge 33, 3, 0, 0, 0, [24]),
  (10, .aload_n 0, 1, 0, 0, 0, []),
  (11, .getfield 7, 3, 7, 0, 0, []),
  (14, .iconst 2, 1, 0, 0, 2, []),
  (15, .aload_n 0, 1, 0, 0, 0, []),
  (16, .getfield 51, 3, 7, 30, 0, []),
  (19, .iload_n 1, 1, 1, 0, 0, []),
  (20, .iaload, 1, 0, 0, 0, []),
  (21, .iadd, 1, 0, 0, 0, []),
  (22, .iaload, 1, 0, 0, 0, []),
  (23, .aload_n 0, 1, 0, 0, 0, []),
  (24, .getfield 54, 3, 7, 31, 0, []),
  (27, .iload_n 1, 1, 1, 0, 0, []),
  (28, .iaload, 1, 0, 0, 0, []),
  (29, .if_icmp .eq 5, 3, 0, 0, 0, [22]),
  (32, .iload_n 1, 1, 1, 0, 0, []),
  (33, .ireturn, 1, 0, 0, 0, []),
  (34, .iinc 1 1, 3, 1, 0, 1, []),
  (37, .goto (-35), 3, 0, 0, 0, [2]),
  (40, .iconst (-1), 1, 0, 0, -1, []),
  (41, .ireturn, 1, 0, 0, 0, [])]
theorem gX7_judge : jchk 7 cX7_judge (some .int) 0 0 kX7_judge = true := by decide +kernel
def kX7_seed : List jI := [(0, .iload_n 1, 1, 1, 0, 0, []),
  (1, .ifCond .ge 6, 3, 0, 0, 0, [4]),
  (4, .ldc 75, 2, 0, 0, -1000000002, []),
  (6, .ireturn, 1, 0, 0, 0, []),
  (7, .aload_n 0, 1, 0, 0, 0, []),
  (8, .getfield 7, 3, 7, 0, 0, []),
  (11, .bipush 26, 2, 0, 0, 26, []),
  (13, .iaload, 1, 0, 0, 0, []),
  (14, .istore_n 2, 1, 2, 0, 0, []),
  (15, .aload_n 0, 1, 0, 0, 0, []),
  (16, .getfield 7, 3, 7, 0, 0, []),
  (19, .bipush 26, 2, 0, 0, 26, []),
  (21, .iload_n 1, 1, 1, 0, 0, []),
  (22, .iastore, 1, 0, 0, 0, []),
  (23, .iload_n 2, 1, 2, 0, 0, []),
  (24, .ireturn, 1, 0, 0, 0, [])]
theorem gX7_seed : jchk 7 cX7_seed (some .int) 0 0 kX7_seed = true := by decide +kernel
def kX7_keep : List jI := [(0, .iload_n 1, 1, 1, 0, 0, []),
  (1, .i2l, 1, 0, 0, 0, []),
  (2, .lconst 0, 1, 0, 0, 0, []),
  (3, .lconst 1, 1, 0, 0, 1, []),
  (4, .invokestatic 63, 3, 84, 3, 0, []),
  (7, .ifCond .ne 6, 3, 0, 0, 0, [8]),
  (10, .ldc 172, 2, 0, 0, -1000000001, []),
  (12, .ireturn, 1, 0, 0, 0, []),
  (13, .aload_n 0, 1, 0, 0, 0, []),
  (14, .iconst 0, 1, 0, 0, 0, []),
  (15, .bipush 54, 2, 0, 0, 54, []),
  (17, .bipush 27, 2, 0, 0, 27, []),
  (19, .iload_n 1, 1, 1, 0, 0, []),
  (20, .imul, 1, 0, 0, 0, []),
  (21, .iadd, 1, 0, 0, 0, []),
  (22, .invokevirtual 182, 3, 87, 2, 7, []),
  (25, .aload_n 0, 1, 0, 0, 0, []),
  (26, .getfield 13, 3, 7, 1, 0, []),
  (29, .iload_n 1, 1, 1, 0, 0, []),
  (30, .iconst 1, 1, 0, 0, 1, []),
  (31, .bastore, 1, 0, 0, 0, []),
  (32, .aload_n 0, 1, 0, 0, 0, []),
  (33, .iconst 0, 1, 0, 0, 0, []),
  (34, .putfield 155, 3, 7, 2, 0, []),
  (37, .iconst 1, 1, 0, 0, 1, []),
  (38, .ireturn, 1, 0, 0, 0, [])]
theorem gX7_keep : jchk 7 cX7_keep (some .int) 1 25 kX7_keep = true := by decide +kernel
def kX7_goBack : List jI := [(0, .iload_n 1, 1, 1, 0, 0, []),
  (1, .i2l, 1, 0, 0, 0, []),
  (2, .lconst 0, 1, 0, 0, 0, []),
  (3, .lconst 1, 1, 0, 0, 1, []),
  (4, .invokestatic 63, 3, 84, 3, 0, []),
  (7, .ifCond .ne 6, 3, 0, 0, 0, [8]),
  (10, .ldc 172, 2, 0, 0, -1000000001, []),
  (12, .ireturn, 1, 0, 0, 0, []),
  (13, .aload_n 0, 1, 0, 0, 0, []),
  (14, .getfield 13, 3, 7, 1, 0, []),
  (17, .iload_n 1, 1, 1, 0, 0, []),
  (18, .baload, 1, 0, 0, 0, []),
  (19, .ifCond .ne 6, 3, 0, 0, 0, [15]),
  (22, .ldc 186, 2, 0, 0, -1000000003, []),
  (24, .ireturn, 1, 0, 0, 0, []),
  (25, .aload_n 0, 1, 0, 0, 0, []),
  (26, .bipush 54, 2, 0, 0, 54, []),
  (28, .bipush 27, 2, 0, 0, 27, []),
  (30, .iload_n 1, 1, 1, 0, 0, []),
  (31, .imul, 1, 0, 0, 0, []),
  (32, .iadd, 1, 0, 0, 0, []),
  (33, .iconst 0, 1, 0, 0, 0, []),
  (34, .invokevirtual 182, 3, 87, 2, 7, []),
  (37, .aload_n 0, 1, 0, 0, 0, []),
  (38, .iconst 0, 1, 0, 0, 0, []),
  (39, .putfield 155, 3, 7, 2, 0, []),
  (42, .iconst 1, 1, 0, 0, 1, []),
  (43, .ireturn, 1, 0, 0, 0, [])]
theorem gX7_goBack : jchk 7 cX7_goBack (some .int) 1 25 kX7_goBack = true := by decide +kernel
def kJ6_bitCount_0f7a4 : List jI := [(0, .iload_n 0, 1, 0, 0, 0, []),
  (1, .iload_n 0, 1, 0, 0, 0, []),
  (2, .iconst 1, 1, 0, 0, 1, []),
  (3, .iushr, 1, 0, 0, 0, []),
  (4, .ldc_w 265, 3, 0, 0, 1431655765, []),
  (7, .iand, 1, 0, 0, 0, []),
  (8, .isub, 1, 0, 0, 0, []),
  (9, .istore_n 0, 1, 0, 0, 0, []),
  (10, .iload_n 0, 1, 0, 0, 0, []),
  (11, .ldc_w 266, 3, 0, 0, 858993459, []),
  (14, .iand, 1, 0, 0, 0, []),
  (15, .iload_n 0, 1, 0, 0, 0, []),
  (16, .iconst 2, 1, 0, 0, 2, []),
  (17, .iushr, 1, 0, 0, 0, []),
  (18, .ldc_w 266, 3, 0, 0, 858993459, []),
  (21, .iand, 1, 0, 0, 0, []),
  (22, .iadd, 1, 0, 0, 0, []),
  (23, .istore_n 0, 1, 0, 0, 0, []),
  (24, .iload_n 0, 1, 0, 0, 0, []),
  (25, .iload_n 0, 1, 0, 0, 0, []),
  (26, .iconst 4, 1, 0, 0, 4, []),
  (27, .iushr, 1, 0, 0, 0, []),
  (28, .iadd, 1, 0, 0, 0, []),
  (29, .ldc_w 267, 3, 0, 0, 252645135, []),
  (32, .iand, 1, 0, 0, 0, []),
  (33, .istore_n 0, 1, 0, 0, 0, []),
  (34, .iload_n 0, 1, 0, 0, 0, []),
  (35, .iload_n 0, 1, 0, 0, 0, []),
  (36, .bipush 8, 2, 0, 0, 8, []),
  (38, .iushr, 1, 0, 0, 0, []),
  (39, .iadd, 1, 0, 0, 0, []),
  (40, .istore_n 0, 1, 0, 0, 0, []),
  (41, .iload_n 0, 1, 0, 0, 0, []),
  (42, .iload_n 0, 1, 0, 0, 0, []),
  (43, .bipush 16, 2, 0, 0, 16, []),
  (45, .iushr, 1, 0, 0, 0, []),
  (46, .iadd, 1, 0, 0, 0, []),
  (47, .istore_n 0, 1, 0, 0, 0, []),
  (48, .iload_n 0, 1, 0, 0, 0, []),
  (49, .bipush 63, 2, 0, 0, 63, []),
  (51, .iand, 1, 0, 0, 0, []),
  (52, .ireturn, 1, 0, 0, 0, [])]
theorem gJ6_bitCount_0f7a4 : jchk 8 cJ6_bitCount_0f7a4 (some .int) 0 0 kJ6_bitCount_0f7a4 = true := by decide +kernel
end
section
/-! ALL METHODS: the predicate of each, by the depth of calls; each is met by the machine -/
def jCs : List (Nat × List jI) := [(0, kX0_empty), (0, kX0_takeFrom), (1, kX1_push), (1, kX1_popInto), (1, kX1_forgetAll), (3, kX3_addSeen), (3, kX3_addEntry), (3, kX3_clearAll), (4, kX4_addLetter), (4, kX4_readAll), (4, kX4_readClause), (4, kX4_readGrandfather), (4, kX4_readPerson), (4, kX4_readPaper), (4, kX4_readCandidate), (4, kX4_readNumber), (4, kX4_readEnd), (4, kX4_fail), (4, kX4_skipBlanks), (4, kX4_letterHere), (4, kX4_isFigure), (5, kX5_empty), (5, kX5_addPaper), (5, kX5_takeFrom), (6, kX6_feed), (6, kX6_clan), (6, kX6_fault), (6, kX6_told), (6, kX6_person), (6, kX6_paper), (6, kX6_candidate), (6, kX6_year), (6, kX6_teach), (6, kX6_sign), (6, kX6_tearPaper), (6, kX6_drift), (6, kX6_undo), (6, kX6_whose), (6, kX6_odds), (6, kX6_marks), (6, kX6_tree), (6, kX6_kin), (6, kX6_most), (6, kX6_clash), (6, kX6_forged), (6, kX6_makers), (6, kX6_heir), (6, kX6_sham), (6, kX6_love), (6, kX6_vote), (6, kX6_turned), (6, kX6_one), (6, kX6_see), (6, kX6_madeBy), (6, kX6_lookAt), (6, kX6_write), (6, kX6_tear), (6, kX6_judge), (6, kX6_seed), (6, kX6_keep), (6, kX6_goBack), (6, kX6_isPerson), (6, kX6_isPaper), (6, kX6_isCandidate), (6, kX6_isImage), (6, kX6_isMark), (6, kX6_part), (6, kX6_apart), (6, kX6_within), (6, kX6_passes), (6, kX6_passSet), (6, kX6_passCount), (6, kX6_weight), (6, kX6_toldApart), (6, kX6_allToldApart), (6, kX6_nearestTo), (6, kX6_nextOfTree), (6, kX6_joinGroups), (6, kX6_choice), (6, kX6_greatestAlike), (6, kX6_passYears), (6, kX6_aged), (6, kX6_shakeOnce), (6, kX6_draw), (7, kX7_in), (7, kX7_has), (7, kX7_ones), (7, kX7_copy), (7, kX7_isMark), (7, kX7_isPerson), (7, kX7_isPaper), (7, kX7_isCandidate), (7, kX7_feed), (7, kX7_letterAt), (7, kX7_here), (7, kX7_fails), (7, kX7_takes), (7, kX7_takesNumber), (7, kX7_takesGrand), (7, kX7_takesPerson), (7, kX7_takesPaper), (7, kX7_takesCandidate), (7, kX7_takesClause), (7, kX7_clan), (7, kX7_fault), (7, kX7_told), (7, kX7_partOf), (7, kX7_off), (7, kX7_apart), (7, kX7_isNear), (7, kX7_passesFor), (7, kX7_person), (7, kX7_paper), (7, kX7_candidate), (7, kX7_minds), (7, kX7_undo), (7, kX7_passesYear), (7, kX7_year), (7, kX7_teach), (7, kX7_sign), (7, kX7_tearPaper), (7, kX7_draw), (7, kX7_shaken), (7, kX7_drift), (7, kX7_whoseIs), (7, kX7_whose), (7, kX7_marksOf), (7, kX7_odds), (7, kX7_marks), (7, kX7_between), (7, kX7_tree), (7, kX7_kinOf), (7, kX7_kin), (7, kX7_areToldApart), (7, kX7_most), (7, kX7_clash), (7, kX7_forged), (7, kX7_makers), (7, kX7_heir), (7, kX7_sham), (7, kX7_love), (7, kX7_voteOf), (7, kX7_vote), (7, kX7_turned), (7, kX7_one), (7, kX7_see), (7, kX7_makersOfSeen), (7, kX7_madeBy), (7, kX7_lookAt), (7, kX7_write), (7, kX7_tear), (7, kX7_judge), (7, kX7_seed), (7, kX7_keep), (7, kX7_goBack), (8, kJ6_bitCount_0f7a4)]
def jck1 (q : jR × Nat × List jI) : Bool := decide (q.1.1.cls = jcn q.2.1) && jchk q.2.1 q.1.2.1 q.1.2.2.2.1 q.1.2.2.2.2.2.2.1 q.1.2.2.2.2.2.2.2 q.2.2
theorem hX0_empty : jck1 ((yX0_empty, cX0_empty, 1, none, 0, 0, 0, 0), 0, kX0_empty) = true := by rw [jck1, Bool.and_eq_true]; exact ⟨by decide +kernel, gX0_empty⟩
theorem hX0_takeFrom : jck1 ((yX0_takeFrom, cX0_takeFrom, 2, none, 1, 0, 1, 26), 0, kX0_takeFrom) = true := by rw [jck1, Bool.and_eq_true]; exact ⟨by decide +kernel, gX0_takeFrom⟩
theorem hX1_push : jck1 ((yX1_push, cX1_push, 2, none, 1, 1, 2, 47), 1, kX1_push) = true := by rw [jck1, Bool.and_eq_true]; exact ⟨by decide +kernel, gX1_push⟩
theorem hX1_popInto : jck1 ((yX1_popInto, cX1_popInto, 2, none, 1, 1, 2, 47), 1, kX1_popInto) = true := by rw [jck1, Bool.and_eq_true]; exact ⟨by decide +kernel, gX1_popInto⟩
theorem hX1_forgetAll : jck1 ((yX1_forgetAll, cX1_forgetAll, 1, none, 0, 1, 0, 0), 1, kX1_forgetAll) = true := by rw [jck1, Bool.and_eq_true]; exact ⟨by decide +kernel, gX1_forgetAll⟩
theorem hX3_addSeen : jck1 ((yX3_addSeen, cX3_addSeen, 2, none, 1, 3, 0, 0), 3, kX3_addSeen) = true := by rw [jck1, Bool.and_eq_true]; exact ⟨by decide +kernel, gX3_addSeen⟩
theorem hX3_addEntry : jck1 ((yX3_addEntry, cX3_addEntry, 3, none, 2, 3, 0, 0), 3, kX3_addEntry) = true := by rw [jck1, Bool.and_eq_true]; exact ⟨by decide +kernel, gX3_addEntry⟩
theorem hX3_clearAll : jck1 ((yX3_clearAll, cX3_clearAll, 1, none, 0, 3, 0, 0), 3, kX3_clearAll) = true := by rw [jck1, Bool.and_eq_true]; exact ⟨by decide +kernel, gX3_clearAll⟩
theorem hX4_addLetter : jck1 ((yX4_addLetter, cX4_addLetter, 2, none, 1, 4, 0, 0), 4, kX4_addLetter) = true := by rw [jck1, Bool.and_eq_true]; exact ⟨by decide +kernel, gX4_addLetter⟩
theorem hX4_readAll : jck1 ((yX4_readAll, cX4_readAll, 2, (some .int), 0, 4, 5, 108), 4, kX4_readAll) = true := by rw [jck1, Bool.and_eq_true]; exact ⟨by decide +kernel, gX4_readAll⟩
theorem hX4_readClause : jck1 ((yX4_readClause, cX4_readClause, 3, none, 0, 4, 4, 86), 4, kX4_readClause) = true := by rw [jck1, Bool.and_eq_true]; exact ⟨by decide +kernel, gX4_readClause⟩
theorem hX4_readGrandfather : jck1 ((yX4_readGrandfather, cX4_readGrandfather, 3, none, 1, 4, 3, 63), 4, kX4_readGrandfather) = true := by rw [jck1, Bool.and_eq_true]; exact ⟨by decide +kernel, gX4_readGrandfather⟩
theorem hX4_readPerson : jck1 ((yX4_readPerson, cX4_readPerson, 3, none, 1, 4, 3, 63), 4, kX4_readPerson) = true := by rw [jck1, Bool.and_eq_true]; exact ⟨by decide +kernel, gX4_readPerson⟩
theorem hX4_readPaper : jck1 ((yX4_readPaper, cX4_readPaper, 4, none, 1, 4, 3, 63), 4, kX4_readPaper) = true := by rw [jck1, Bool.and_eq_true]; exact ⟨by decide +kernel, gX4_readPaper⟩
theorem hX4_readCandidate : jck1 ((yX4_readCandidate, cX4_readCandidate, 3, none, 1, 4, 3, 63), 4, kX4_readCandidate) = true := by rw [jck1, Bool.and_eq_true]; exact ⟨by decide +kernel, gX4_readCandidate⟩
theorem hX4_readNumber : jck1 ((yX4_readNumber, cX4_readNumber, 4, (some .int), 1, 4, 2, 40), 4, kX4_readNumber) = true := by rw [jck1, Bool.and_eq_true]; exact ⟨by decide +kernel, gX4_readNumber⟩
theorem hX4_readEnd : jck1 ((yX4_readEnd, cX4_readEnd, 1, none, 0, 4, 2, 40), 4, kX4_readEnd) = true := by rw [jck1, Bool.and_eq_true]; exact ⟨by decide +kernel, gX4_readEnd⟩
theorem hX4_fail : jck1 ((yX4_fail, cX4_fail, 3, none, 2, 4, 0, 0), 4, kX4_fail) = true := by rw [jck1, Bool.and_eq_true]; exact ⟨by decide +kernel, gX4_fail⟩
theorem hX4_skipBlanks : jck1 ((yX4_skipBlanks, cX4_skipBlanks, 1, none, 0, 4, 1, 20), 4, kX4_skipBlanks) = true := by rw [jck1, Bool.and_eq_true]; exact ⟨by decide +kernel, gX4_skipBlanks⟩
theorem hX4_letterHere : jck1 ((yX4_letterHere, cX4_letterHere, 1, (some .int), 0, 4, 0, 0), 4, kX4_letterHere) = true := by rw [jck1, Bool.and_eq_true]; exact ⟨by decide +kernel, gX4_letterHere⟩
theorem hX4_isFigure : jck1 ((yX4_isFigure, cX4_isFigure, 1, (some .boolean), 1, 99, 0, 0), 4, kX4_isFigure) = true := by rw [jck1, Bool.and_eq_true]; exact ⟨by decide +kernel, gX4_isFigure⟩
theorem hX5_empty : jck1 ((yX5_empty, cX5_empty, 1, none, 0, 5, 0, 0), 5, kX5_empty) = true := by rw [jck1, Bool.and_eq_true]; exact ⟨by decide +kernel, gX5_empty⟩
theorem hX5_addPaper : jck1 ((yX5_addPaper, cX5_addPaper, 3, none, 2, 5, 0, 0), 5, kX5_addPaper) = true := by rw [jck1, Bool.and_eq_true]; exact ⟨by decide +kernel, gX5_addPaper⟩
theorem hX5_takeFrom : jck1 ((yX5_takeFrom, cX5_takeFrom, 2, none, 1, 5, 1, 26), 5, kX5_takeFrom) = true := by rw [jck1, Bool.and_eq_true]; exact ⟨by decide +kernel, gX5_takeFrom⟩
theorem hX6_feed : jck1 ((yX6_feed, cX6_feed, 2, (some .int), 1, 6, 1, 21), 6, kX6_feed) = true := by rw [jck1, Bool.and_eq_true]; exact ⟨by decide +kernel, gX6_feed⟩
theorem hX6_clan : jck1 ((yX6_clan, cX6_clan, 3, (some .int), 0, 6, 6, 129), 6, kX6_clan) = true := by rw [jck1, Bool.and_eq_true]; exact ⟨by decide +kernel, gX6_clan⟩
theorem hX6_fault : jck1 ((yX6_fault, cX6_fault, 1, (some .int), 0, 6, 0, 0), 6, kX6_fault) = true := by rw [jck1, Bool.and_eq_true]; exact ⟨by decide +kernel, gX6_fault⟩
theorem hX6_told : jck1 ((yX6_told, cX6_told, 2, (some .int), 1, 6, 0, 0), 6, kX6_told) = true := by rw [jck1, Bool.and_eq_true]; exact ⟨by decide +kernel, gX6_told⟩
theorem hX6_person : jck1 ((yX6_person, cX6_person, 3, (some .int), 2, 6, 2, 42), 6, kX6_person) = true := by rw [jck1, Bool.and_eq_true]; exact ⟨by decide +kernel, gX6_person⟩
theorem hX6_paper : jck1 ((yX6_paper, cX6_paper, 3, (some .int), 2, 6, 1, 21), 6, kX6_paper) = true := by rw [jck1, Bool.and_eq_true]; exact ⟨by decide +kernel, gX6_paper⟩
theorem hX6_candidate : jck1 ((yX6_candidate, cX6_candidate, 2, (some .int), 1, 6, 1, 21), 6, kX6_candidate) = true := by rw [jck1, Bool.and_eq_true]; exact ⟨by decide +kernel, gX6_candidate⟩
theorem hX6_year : jck1 ((yX6_year, cX6_year, 2, (some .int), 1, 6, 3, 72), 6, kX6_year) = true := by rw [jck1, Bool.and_eq_true]; exact ⟨by decide +kernel, gX6_year⟩
theorem hX6_teach : jck1 ((yX6_teach, cX6_teach, 4, (some .int), 2, 6, 3, 68), 6, kX6_teach) = true := by rw [jck1, Bool.and_eq_true]; exact ⟨by decide +kernel, gX6_teach⟩
theorem hX6_sign : jck1 ((yX6_sign, cX6_sign, 3, (some .int), 2, 6, 3, 68), 6, kX6_sign) = true := by rw [jck1, Bool.and_eq_true]; exact ⟨by decide +kernel, gX6_sign⟩
theorem hX6_tearPaper : jck1 ((yX6_tearPaper, cX6_tearPaper, 2, (some .int), 0, 6, 3, 68), 6, kX6_tearPaper) = true := by rw [jck1, Bool.and_eq_true]; exact ⟨by decide +kernel, gX6_tearPaper⟩
theorem hX6_drift : jck1 ((yX6_drift, cX6_drift, 4, (some .int), 1, 6, 3, 68), 6, kX6_drift) = true := by rw [jck1, Bool.and_eq_true]; exact ⟨by decide +kernel, gX6_drift⟩
theorem hX6_undo : jck1 ((yX6_undo, cX6_undo, 1, (some .int), 0, 6, 3, 68), 6, kX6_undo) = true := by rw [jck1, Bool.and_eq_true]; exact ⟨by decide +kernel, gX6_undo⟩
theorem hX6_whose : jck1 ((yX6_whose, cX6_whose, 2, (some .int), 1, 6, 4, 88), 6, kX6_whose) = true := by rw [jck1, Bool.and_eq_true]; exact ⟨by decide +kernel, gX6_whose⟩
theorem hX6_odds : jck1 ((yX6_odds, cX6_odds, 6, (some .int), 2, 6, 3, 68), 6, kX6_odds) = true := by rw [jck1, Bool.and_eq_true]; exact ⟨by decide +kernel, gX6_odds⟩
theorem hX6_marks : jck1 ((yX6_marks, cX6_marks, 2, (some .int), 1, 6, 2, 46), 6, kX6_marks) = true := by rw [jck1, Bool.and_eq_true]; exact ⟨by decide +kernel, gX6_marks⟩
theorem hX6_tree : jck1 ((yX6_tree, cX6_tree, 5, (some .int), 1, 6, 3, 67), 6, kX6_tree) = true := by rw [jck1, Bool.and_eq_true]; exact ⟨by decide +kernel, gX6_tree⟩
theorem hX6_kin : jck1 ((yX6_kin, cX6_kin, 2, (some .int), 1, 6, 3, 67), 6, kX6_kin) = true := by rw [jck1, Bool.and_eq_true]; exact ⟨by decide +kernel, gX6_kin⟩
theorem hX6_most : jck1 ((yX6_most, cX6_most, 6, (some .int), 0, 6, 4, 90), 6, kX6_most) = true := by rw [jck1, Bool.and_eq_true]; exact ⟨by decide +kernel, gX6_most⟩
theorem hX6_clash : jck1 ((yX6_clash, cX6_clash, 3, (some .int), 0, 6, 3, 66), 6, kX6_clash) = true := by rw [jck1, Bool.and_eq_true]; exact ⟨by decide +kernel, gX6_clash⟩
theorem hX6_forged : jck1 ((yX6_forged, cX6_forged, 3, (some .int), 0, 6, 3, 65), 6, kX6_forged) = true := by rw [jck1, Bool.and_eq_true]; exact ⟨by decide +kernel, gX6_forged⟩
theorem hX6_makers : jck1 ((yX6_makers, cX6_makers, 2, (some .int), 1, 6, 4, 88), 6, kX6_makers) = true := by rw [jck1, Bool.and_eq_true]; exact ⟨by decide +kernel, gX6_makers⟩
theorem hX6_heir : jck1 ((yX6_heir, cX6_heir, 6, (some .int), 1, 6, 3, 72), 6, kX6_heir) = true := by rw [jck1, Bool.and_eq_true]; exact ⟨by decide +kernel, gX6_heir⟩
theorem hX6_sham : jck1 ((yX6_sham, cX6_sham, 5, (some .int), 1, 6, 2, 42), 6, kX6_sham) = true := by rw [jck1, Bool.and_eq_true]; exact ⟨by decide +kernel, gX6_sham⟩
theorem hX6_love : jck1 ((yX6_love, cX6_love, 5, (some .int), 1, 6, 3, 67), 6, kX6_love) = true := by rw [jck1, Bool.and_eq_true]; exact ⟨by decide +kernel, gX6_love⟩
theorem hX6_vote : jck1 ((yX6_vote, cX6_vote, 2, (some .int), 1, 6, 3, 67), 6, kX6_vote) = true := by rw [jck1, Bool.and_eq_true]; exact ⟨by decide +kernel, gX6_vote⟩
theorem hX6_turned : jck1 ((yX6_turned, cX6_turned, 6, (some .int), 2, 6, 3, 67), 6, kX6_turned) = true := by rw [jck1, Bool.and_eq_true]; exact ⟨by decide +kernel, gX6_turned⟩
theorem hX6_one : jck1 ((yX6_one, cX6_one, 4, (some .int), 2, 6, 3, 72), 6, kX6_one) = true := by rw [jck1, Bool.and_eq_true]; exact ⟨by decide +kernel, gX6_one⟩
theorem hX6_see : jck1 ((yX6_see, cX6_see, 2, (some .int), 1, 6, 1, 21), 6, kX6_see) = true := by rw [jck1, Bool.and_eq_true]; exact ⟨by decide +kernel, gX6_see⟩
theorem hX6_madeBy : jck1 ((yX6_madeBy, cX6_madeBy, 3, (some .int), 0, 6, 4, 88), 6, kX6_madeBy) = true := by rw [jck1, Bool.and_eq_true]; exact ⟨by decide +kernel, gX6_madeBy⟩
theorem hX6_lookAt : jck1 ((yX6_lookAt, cX6_lookAt, 6, (some .int), 0, 6, 5, 110), 6, kX6_lookAt) = true := by rw [jck1, Bool.and_eq_true]; exact ⟨by decide +kernel, gX6_lookAt⟩
theorem hX6_write : jck1 ((yX6_write, cX6_write, 3, (some .int), 2, 6, 1, 22), 6, kX6_write) = true := by rw [jck1, Bool.and_eq_true]; exact ⟨by decide +kernel, gX6_write⟩
theorem hX6_tear : jck1 ((yX6_tear, cX6_tear, 2, (some .int), 0, 6, 1, 20), 6, kX6_tear) = true := by rw [jck1, Bool.and_eq_true]; exact ⟨by decide +kernel, gX6_tear⟩
theorem hX6_judge : jck1 ((yX6_judge, cX6_judge, 3, (some .int), 0, 6, 1, 21), 6, kX6_judge) = true := by rw [jck1, Bool.and_eq_true]; exact ⟨by decide +kernel, gX6_judge⟩
theorem hX6_seed : jck1 ((yX6_seed, cX6_seed, 3, (some .int), 1, 6, 0, 0), 6, kX6_seed) = true := by rw [jck1, Bool.and_eq_true]; exact ⟨by decide +kernel, gX6_seed⟩
theorem hX6_keep : jck1 ((yX6_keep, cX6_keep, 2, (some .int), 1, 6, 2, 47), 6, kX6_keep) = true := by rw [jck1, Bool.and_eq_true]; exact ⟨by decide +kernel, gX6_keep⟩
theorem hX6_goBack : jck1 ((yX6_goBack, cX6_goBack, 2, (some .int), 1, 6, 2, 47), 6, kX6_goBack) = true := by rw [jck1, Bool.and_eq_true]; exact ⟨by decide +kernel, gX6_goBack⟩
theorem hX6_isPerson : jck1 ((yX6_isPerson, cX6_isPerson, 2, (some .boolean), 1, 6, 0, 0), 6, kX6_isPerson) = true := by rw [jck1, Bool.and_eq_true]; exact ⟨by decide +kernel, gX6_isPerson⟩
theorem hX6_isPaper : jck1 ((yX6_isPaper, cX6_isPaper, 2, (some .boolean), 1, 6, 0, 0), 6, kX6_isPaper) = true := by rw [jck1, Bool.and_eq_true]; exact ⟨by decide +kernel, gX6_isPaper⟩
theorem hX6_isCandidate : jck1 ((yX6_isCandidate, cX6_isCandidate, 2, (some .boolean), 1, 6, 0, 0), 6, kX6_isCandidate) = true := by rw [jck1, Bool.and_eq_true]; exact ⟨by decide +kernel, gX6_isCandidate⟩
theorem hX6_isImage : jck1 ((yX6_isImage, cX6_isImage, 1, (some .boolean), 1, 99, 0, 0), 6, kX6_isImage) = true := by rw [jck1, Bool.and_eq_true]; exact ⟨by decide +kernel, gX6_isImage⟩
theorem hX6_isMark : jck1 ((yX6_isMark, cX6_isMark, 1, (some .boolean), 1, 99, 0, 0), 6, kX6_isMark) = true := by rw [jck1, Bool.and_eq_true]; exact ⟨by decide +kernel, gX6_isMark⟩
theorem hX6_part : jck1 ((yX6_part, cX6_part, 2, (some .int), 2, 99, 0, 0), 6, kX6_part) = true := by rw [jck1, Bool.and_eq_true]; exact ⟨by decide +kernel, gX6_part⟩
theorem hX6_apart : jck1 ((yX6_apart, cX6_apart, 2, (some .int), 2, 99, 1, 21), 6, kX6_apart) = true := by rw [jck1, Bool.and_eq_true]; exact ⟨by decide +kernel, gX6_apart⟩
theorem hX6_within : jck1 ((yX6_within, cX6_within, 3, (some .boolean), 3, 99, 1, 21), 6, kX6_within) = true := by rw [jck1, Bool.and_eq_true]; exact ⟨by decide +kernel, gX6_within⟩
theorem hX6_passes : jck1 ((yX6_passes, cX6_passes, 3, (some .boolean), 2, 6, 2, 43), 6, kX6_passes) = true := by rw [jck1, Bool.and_eq_true]; exact ⟨by decide +kernel, gX6_passes⟩
theorem hX6_passSet : jck1 ((yX6_passSet, cX6_passSet, 4, (some .int), 1, 6, 3, 65), 6, kX6_passSet) = true := by rw [jck1, Bool.and_eq_true]; exact ⟨by decide +kernel, gX6_passSet⟩
theorem hX6_passCount : jck1 ((yX6_passCount, cX6_passCount, 6, (some .int), 1, 6, 1, 21), 6, kX6_passCount) = true := by rw [jck1, Bool.and_eq_true]; exact ⟨by decide +kernel, gX6_passCount⟩
theorem hX6_weight : jck1 ((yX6_weight, cX6_weight, 3, (some .int), 1, 6, 2, 46), 6, kX6_weight) = true := by rw [jck1, Bool.and_eq_true]; exact ⟨by decide +kernel, gX6_weight⟩
theorem hX6_toldApart : jck1 ((yX6_toldApart, cX6_toldApart, 4, (some .boolean), 3, 6, 2, 43), 6, kX6_toldApart) = true := by rw [jck1, Bool.and_eq_true]; exact ⟨by decide +kernel, gX6_toldApart⟩
theorem hX6_allToldApart : jck1 ((yX6_allToldApart, cX6_allToldApart, 5, (some .boolean), 1, 6, 3, 66), 6, kX6_allToldApart) = true := by rw [jck1, Bool.and_eq_true]; exact ⟨by decide +kernel, gX6_allToldApart⟩
theorem hX6_nearestTo : jck1 ((yX6_nearestTo, cX6_nearestTo, 6, (some .int), 1, 6, 2, 42), 6, kX6_nearestTo) = true := by rw [jck1, Bool.and_eq_true]; exact ⟨by decide +kernel, gX6_nearestTo⟩
theorem hX6_nextOfTree : jck1 ((yX6_nextOfTree, cX6_nextOfTree, 6, (some .int), 0, 6, 2, 42), 6, kX6_nextOfTree) = true := by rw [jck1, Bool.and_eq_true]; exact ⟨by decide +kernel, gX6_nextOfTree⟩
theorem hX6_joinGroups : jck1 ((yX6_joinGroups, cX6_joinGroups, 6, none, 2, 6, 0, 0), 6, kX6_joinGroups) = true := by rw [jck1, Bool.and_eq_true]; exact ⟨by decide +kernel, gX6_joinGroups⟩
theorem hX6_choice : jck1 ((yX6_choice, cX6_choice, 6, (some .int), 1, 6, 2, 42), 6, kX6_choice) = true := by rw [jck1, Bool.and_eq_true]; exact ⟨by decide +kernel, gX6_choice⟩
theorem hX6_greatestAlike : jck1 ((yX6_greatestAlike, cX6_greatestAlike, 7, (some .int), 2, 6, 1, 21), 6, kX6_greatestAlike) = true := by rw [jck1, Bool.and_eq_true]; exact ⟨by decide +kernel, gX6_greatestAlike⟩
theorem hX6_passYears : jck1 ((yX6_passYears, cX6_passYears, 6, none, 2, 6, 2, 47), 6, kX6_passYears) = true := by rw [jck1, Bool.and_eq_true]; exact ⟨by decide +kernel, gX6_passYears⟩
theorem hX6_aged : jck1 ((yX6_aged, cX6_aged, 7, (some .int), 3, 6, 1, 21), 6, kX6_aged) = true := by rw [jck1, Bool.and_eq_true]; exact ⟨by decide +kernel, gX6_aged⟩
theorem hX6_shakeOnce : jck1 ((yX6_shakeOnce, cX6_shakeOnce, 7, none, 0, 6, 1, 21), 6, kX6_shakeOnce) = true := by rw [jck1, Bool.and_eq_true]; exact ⟨by decide +kernel, gX6_shakeOnce⟩
theorem hX6_draw : jck1 ((yX6_draw, cX6_draw, 2, (some .int), 1, 6, 0, 0), 6, kX6_draw) = true := by rw [jck1, Bool.and_eq_true]; exact ⟨by decide +kernel, gX6_draw⟩
theorem hX7_in : jck1 ((yX7_in, cX7_in, 6, (some .boolean), 3, 99, 0, 0), 7, kX7_in) = true := by rw [jck1, Bool.and_eq_true]; exact ⟨by decide +kernel, gX7_in⟩
theorem hX7_has : jck1 ((yX7_has, cX7_has, 2, (some .boolean), 2, 99, 0, 0), 7, kX7_has) = true := by rw [jck1, Bool.and_eq_true]; exact ⟨by decide +kernel, gX7_has⟩
theorem hX7_ones : jck1 ((yX7_ones, cX7_ones, 3, (some .int), 1, 99, 0, 0), 7, kX7_ones) = true := by rw [jck1, Bool.and_eq_true]; exact ⟨by decide +kernel, gX7_ones⟩
theorem hX7_copy : jck1 ((yX7_copy, cX7_copy, 4, none, 2, 7, 0, 0), 7, kX7_copy) = true := by rw [jck1, Bool.and_eq_true]; exact ⟨by decide +kernel, gX7_copy⟩
theorem hX7_isMark : jck1 ((yX7_isMark, cX7_isMark, 1, (some .boolean), 1, 99, 1, 25), 7, kX7_isMark) = true := by rw [jck1, Bool.and_eq_true]; exact ⟨by decide +kernel, gX7_isMark⟩
theorem hX7_isPerson : jck1 ((yX7_isPerson, cX7_isPerson, 2, (some .boolean), 1, 7, 1, 25), 7, kX7_isPerson) = true := by rw [jck1, Bool.and_eq_true]; exact ⟨by decide +kernel, gX7_isPerson⟩
theorem hX7_isPaper : jck1 ((yX7_isPaper, cX7_isPaper, 2, (some .boolean), 1, 7, 1, 25), 7, kX7_isPaper) = true := by rw [jck1, Bool.and_eq_true]; exact ⟨by decide +kernel, gX7_isPaper⟩
theorem hX7_isCandidate : jck1 ((yX7_isCandidate, cX7_isCandidate, 2, (some .boolean), 1, 7, 1, 25), 7, kX7_isCandidate) = true := by rw [jck1, Bool.and_eq_true]; exact ⟨by decide +kernel, gX7_isCandidate⟩
theorem hX7_feed : jck1 ((yX7_feed, cX7_feed, 2, (some .int), 1, 7, 1, 25), 7, kX7_feed) = true := by rw [jck1, Bool.and_eq_true]; exact ⟨by decide +kernel, gX7_feed⟩
theorem hX7_letterAt : jck1 ((yX7_letterAt, cX7_letterAt, 2, (some .int), 1, 7, 0, 0), 7, kX7_letterAt) = true := by rw [jck1, Bool.and_eq_true]; exact ⟨by decide +kernel, gX7_letterAt⟩
theorem hX7_here : jck1 ((yX7_here, cX7_here, 1, (some .int), 0, 7, 1, 21), 7, kX7_here) = true := by rw [jck1, Bool.and_eq_true]; exact ⟨by decide +kernel, gX7_here⟩
theorem hX7_fails : jck1 ((yX7_fails, cX7_fails, 3, (some .boolean), 2, 7, 0, 0), 7, kX7_fails) = true := by rw [jck1, Bool.and_eq_true]; exact ⟨by decide +kernel, gX7_fails⟩
theorem hX7_takes : jck1 ((yX7_takes, cX7_takes, 2, (some .boolean), 1, 7, 2, 41), 7, kX7_takes) = true := by rw [jck1, Bool.and_eq_true]; exact ⟨by decide +kernel, gX7_takes⟩
theorem hX7_takesNumber : jck1 ((yX7_takesNumber, cX7_takesNumber, 2, (some .boolean), 1, 7, 2, 41), 7, kX7_takesNumber) = true := by rw [jck1, Bool.and_eq_true]; exact ⟨by decide +kernel, gX7_takesNumber⟩
theorem hX7_takesGrand : jck1 ((yX7_takesGrand, cX7_takesGrand, 1, (some .boolean), 0, 7, 3, 62), 7, kX7_takesGrand) = true := by rw [jck1, Bool.and_eq_true]; exact ⟨by decide +kernel, gX7_takesGrand⟩
theorem hX7_takesPerson : jck1 ((yX7_takesPerson, cX7_takesPerson, 2, (some .boolean), 0, 7, 3, 62), 7, kX7_takesPerson) = true := by rw [jck1, Bool.and_eq_true]; exact ⟨by decide +kernel, gX7_takesPerson⟩
theorem hX7_takesPaper : jck1 ((yX7_takesPaper, cX7_takesPaper, 2, (some .boolean), 0, 7, 3, 62), 7, kX7_takesPaper) = true := by rw [jck1, Bool.and_eq_true]; exact ⟨by decide +kernel, gX7_takesPaper⟩
theorem hX7_takesCandidate : jck1 ((yX7_takesCandidate, cX7_takesCandidate, 1, (some .boolean), 0, 7, 3, 62), 7, kX7_takesCandidate) = true := by rw [jck1, Bool.and_eq_true]; exact ⟨by decide +kernel, gX7_takesCandidate⟩
theorem hX7_takesClause : jck1 ((yX7_takesClause, cX7_takesClause, 5, (some .boolean), 0, 7, 4, 83), 7, kX7_takesClause) = true := by rw [jck1, Bool.and_eq_true]; exact ⟨by decide +kernel, gX7_takesClause⟩
theorem hX7_clan : jck1 ((yX7_clan, cX7_clan, 4, (some .int), 0, 7, 5, 107), 7, kX7_clan) = true := by rw [jck1, Bool.and_eq_true]; exact ⟨by decide +kernel, gX7_clan⟩
theorem hX7_fault : jck1 ((yX7_fault, cX7_fault, 1, (some .int), 0, 7, 0, 0), 7, kX7_fault) = true := by rw [jck1, Bool.and_eq_true]; exact ⟨by decide +kernel, gX7_fault⟩
theorem hX7_told : jck1 ((yX7_told, cX7_told, 2, (some .int), 1, 7, 0, 0), 7, kX7_told) = true := by rw [jck1, Bool.and_eq_true]; exact ⟨by decide +kernel, gX7_told⟩
theorem hX7_partOf : jck1 ((yX7_partOf, cX7_partOf, 2, (some .int), 2, 99, 0, 0), 7, kX7_partOf) = true := by rw [jck1, Bool.and_eq_true]; exact ⟨by decide +kernel, gX7_partOf⟩
theorem hX7_off : jck1 ((yX7_off, cX7_off, 2, (some .int), 2, 99, 0, 0), 7, kX7_off) = true := by rw [jck1, Bool.and_eq_true]; exact ⟨by decide +kernel, gX7_off⟩
theorem hX7_apart : jck1 ((yX7_apart, cX7_apart, 4, (some .int), 2, 99, 1, 21), 7, kX7_apart) = true := by rw [jck1, Bool.and_eq_true]; exact ⟨by decide +kernel, gX7_apart⟩
theorem hX7_isNear : jck1 ((yX7_isNear, cX7_isNear, 5, (some .boolean), 3, 99, 1, 21), 7, kX7_isNear) = true := by rw [jck1, Bool.and_eq_true]; exact ⟨by decide +kernel, gX7_isNear⟩
theorem hX7_passesFor : jck1 ((yX7_passesFor, cX7_passesFor, 3, (some .boolean), 2, 7, 2, 45), 7, kX7_passesFor) = true := by rw [jck1, Bool.and_eq_true]; exact ⟨by decide +kernel, gX7_passesFor⟩
theorem hX7_person : jck1 ((yX7_person, cX7_person, 3, (some .int), 2, 7, 2, 46), 7, kX7_person) = true := by rw [jck1, Bool.and_eq_true]; exact ⟨by decide +kernel, gX7_person⟩
theorem hX7_paper : jck1 ((yX7_paper, cX7_paper, 3, (some .int), 2, 7, 2, 46), 7, kX7_paper) = true := by rw [jck1, Bool.and_eq_true]; exact ⟨by decide +kernel, gX7_paper⟩
theorem hX7_candidate : jck1 ((yX7_candidate, cX7_candidate, 2, (some .int), 1, 7, 2, 46), 7, kX7_candidate) = true := by rw [jck1, Bool.and_eq_true]; exact ⟨by decide +kernel, gX7_candidate⟩
theorem hX7_minds : jck1 ((yX7_minds, cX7_minds, 2, none, 0, 7, 1, 23), 7, kX7_minds) = true := by rw [jck1, Bool.and_eq_true]; exact ⟨by decide +kernel, gX7_minds⟩
theorem hX7_undo : jck1 ((yX7_undo, cX7_undo, 2, (some .int), 0, 7, 1, 23), 7, kX7_undo) = true := by rw [jck1, Bool.and_eq_true]; exact ⟨by decide +kernel, gX7_undo⟩
theorem hX7_passesYear : jck1 ((yX7_passesYear, cX7_passesYear, 8, none, 1, 7, 1, 21), 7, kX7_passesYear) = true := by rw [jck1, Bool.and_eq_true]; exact ⟨by decide +kernel, gX7_passesYear⟩
theorem hX7_year : jck1 ((yX7_year, cX7_year, 3, (some .int), 1, 7, 2, 48), 7, kX7_year) = true := by rw [jck1, Bool.and_eq_true]; exact ⟨by decide +kernel, gX7_year⟩
theorem hX7_teach : jck1 ((yX7_teach, cX7_teach, 4, (some .int), 2, 7, 2, 46), 7, kX7_teach) = true := by rw [jck1, Bool.and_eq_true]; exact ⟨by decide +kernel, gX7_teach⟩
theorem hX7_sign : jck1 ((yX7_sign, cX7_sign, 3, (some .int), 2, 7, 2, 46), 7, kX7_sign) = true := by rw [jck1, Bool.and_eq_true]; exact ⟨by decide +kernel, gX7_sign⟩
theorem hX7_tearPaper : jck1 ((yX7_tearPaper, cX7_tearPaper, 1, (some .int), 0, 7, 2, 44), 7, kX7_tearPaper) = true := by rw [jck1, Bool.and_eq_true]; exact ⟨by decide +kernel, gX7_tearPaper⟩
theorem hX7_draw : jck1 ((yX7_draw, cX7_draw, 2, (some .int), 1, 7, 0, 0), 7, kX7_draw) = true := by rw [jck1, Bool.and_eq_true]; exact ⟨by decide +kernel, gX7_draw⟩
theorem hX7_shaken : jck1 ((yX7_shaken, cX7_shaken, 5, (some .int), 3, 99, 1, 21), 7, kX7_shaken) = true := by rw [jck1, Bool.and_eq_true]; exact ⟨by decide +kernel, gX7_shaken⟩
theorem hX7_drift : jck1 ((yX7_drift, cX7_drift, 5, (some .int), 1, 7, 2, 45), 7, kX7_drift) = true := by rw [jck1, Bool.and_eq_true]; exact ⟨by decide +kernel, gX7_drift⟩
theorem hX7_whoseIs : jck1 ((yX7_whoseIs, cX7_whoseIs, 4, (some .int), 1, 7, 3, 67), 7, kX7_whoseIs) = true := by rw [jck1, Bool.and_eq_true]; exact ⟨by decide +kernel, gX7_whoseIs⟩
theorem hX7_whose : jck1 ((yX7_whose, cX7_whose, 2, (some .int), 1, 7, 4, 90), 7, kX7_whose) = true := by rw [jck1, Bool.and_eq_true]; exact ⟨by decide +kernel, gX7_whose⟩
theorem hX7_marksOf : jck1 ((yX7_marksOf, cX7_marksOf, 7, (some .int), 1, 7, 1, 21), 7, kX7_marksOf) = true := by rw [jck1, Bool.and_eq_true]; exact ⟨by decide +kernel, gX7_marksOf⟩
theorem hX7_odds : jck1 ((yX7_odds, cX7_odds, 7, (some .int), 2, 7, 4, 90), 7, kX7_odds) = true := by rw [jck1, Bool.and_eq_true]; exact ⟨by decide +kernel, gX7_odds⟩
theorem hX7_marks : jck1 ((yX7_marks, cX7_marks, 2, (some .int), 1, 7, 2, 47), 7, kX7_marks) = true := by rw [jck1, Bool.and_eq_true]; exact ⟨by decide +kernel, gX7_marks⟩
theorem hX7_between : jck1 ((yX7_between, cX7_between, 3, (some .int), 2, 7, 2, 44), 7, kX7_between) = true := by rw [jck1, Bool.and_eq_true]; exact ⟨by decide +kernel, gX7_between⟩
theorem hX7_tree : jck1 ((yX7_tree, cX7_tree, 10, (some .int), 1, 7, 3, 66), 7, kX7_tree) = true := by rw [jck1, Bool.and_eq_true]; exact ⟨by decide +kernel, gX7_tree⟩
theorem hX7_kinOf : jck1 ((yX7_kinOf, cX7_kinOf, 4, (some .int), 1, 7, 3, 66), 7, kX7_kinOf) = true := by rw [jck1, Bool.and_eq_true]; exact ⟨by decide +kernel, gX7_kinOf⟩
theorem hX7_kin : jck1 ((yX7_kin, cX7_kin, 2, (some .int), 1, 7, 4, 89), 7, kX7_kin) = true := by rw [jck1, Bool.and_eq_true]; exact ⟨by decide +kernel, gX7_kin⟩
theorem hX7_areToldApart : jck1 ((yX7_areToldApart, cX7_areToldApart, 4, (some .boolean), 3, 7, 2, 45), 7, kX7_areToldApart) = true := by rw [jck1, Bool.and_eq_true]; exact ⟨by decide +kernel, gX7_areToldApart⟩
theorem hX7_most : jck1 ((yX7_most, cX7_most, 6, (some .int), 0, 7, 3, 68), 7, kX7_most) = true := by rw [jck1, Bool.and_eq_true]; exact ⟨by decide +kernel, gX7_most⟩
theorem hX7_clash : jck1 ((yX7_clash, cX7_clash, 3, (some .int), 0, 7, 3, 68), 7, kX7_clash) = true := by rw [jck1, Bool.and_eq_true]; exact ⟨by decide +kernel, gX7_clash⟩
theorem hX7_forged : jck1 ((yX7_forged, cX7_forged, 3, (some .int), 0, 7, 3, 67), 7, kX7_forged) = true := by rw [jck1, Bool.and_eq_true]; exact ⟨by decide +kernel, gX7_forged⟩
theorem hX7_makers : jck1 ((yX7_makers, cX7_makers, 2, (some .int), 1, 7, 4, 90), 7, kX7_makers) = true := by rw [jck1, Bool.and_eq_true]; exact ⟨by decide +kernel, gX7_makers⟩
theorem hX7_heir : jck1 ((yX7_heir, cX7_heir, 4, (some .int), 1, 7, 2, 48), 7, kX7_heir) = true := by rw [jck1, Bool.and_eq_true]; exact ⟨by decide +kernel, gX7_heir⟩
theorem hX7_sham : jck1 ((yX7_sham, cX7_sham, 5, (some .int), 1, 7, 2, 46), 7, kX7_sham) = true := by rw [jck1, Bool.and_eq_true]; exact ⟨by decide +kernel, gX7_sham⟩
theorem hX7_love : jck1 ((yX7_love, cX7_love, 5, (some .int), 1, 7, 4, 89), 7, kX7_love) = true := by rw [jck1, Bool.and_eq_true]; exact ⟨by decide +kernel, gX7_love⟩
theorem hX7_voteOf : jck1 ((yX7_voteOf, cX7_voteOf, 4, (some .int), 1, 7, 2, 44), 7, kX7_voteOf) = true := by rw [jck1, Bool.and_eq_true]; exact ⟨by decide +kernel, gX7_voteOf⟩
theorem hX7_vote : jck1 ((yX7_vote, cX7_vote, 2, (some .int), 1, 7, 3, 67), 7, kX7_vote) = true := by rw [jck1, Bool.and_eq_true]; exact ⟨by decide +kernel, gX7_vote⟩
theorem hX7_turned : jck1 ((yX7_turned, cX7_turned, 6, (some .int), 2, 7, 3, 67), 7, kX7_turned) = true := by rw [jck1, Bool.and_eq_true]; exact ⟨by decide +kernel, gX7_turned⟩
theorem hX7_one : jck1 ((yX7_one, cX7_one, 4, (some .int), 2, 7, 3, 68), 7, kX7_one) = true := by rw [jck1, Bool.and_eq_true]; exact ⟨by decide +kernel, gX7_one⟩
theorem hX7_see : jck1 ((yX7_see, cX7_see, 2, (some .int), 1, 7, 2, 45), 7, kX7_see) = true := by rw [jck1, Bool.and_eq_true]; exact ⟨by decide +kernel, gX7_see⟩
theorem hX7_makersOfSeen : jck1 ((yX7_makersOfSeen, cX7_makersOfSeen, 3, (some .int), 0, 7, 4, 90), 7, kX7_makersOfSeen) = true := by rw [jck1, Bool.and_eq_true]; exact ⟨by decide +kernel, gX7_makersOfSeen⟩
theorem hX7_madeBy : jck1 ((yX7_madeBy, cX7_madeBy, 1, (some .int), 0, 7, 5, 112), 7, kX7_madeBy) = true := by rw [jck1, Bool.and_eq_true]; exact ⟨by decide +kernel, gX7_madeBy⟩
theorem hX7_lookAt : jck1 ((yX7_lookAt, cX7_lookAt, 9, (some .int), 0, 7, 5, 112), 7, kX7_lookAt) = true := by rw [jck1, Bool.and_eq_true]; exact ⟨by decide +kernel, gX7_lookAt⟩
theorem hX7_write : jck1 ((yX7_write, cX7_write, 3, (some .int), 2, 7, 2, 46), 7, kX7_write) = true := by rw [jck1, Bool.and_eq_true]; exact ⟨by decide +kernel, gX7_write⟩
theorem hX7_tear : jck1 ((yX7_tear, cX7_tear, 2, (some .int), 0, 7, 0, 0), 7, kX7_tear) = true := by rw [jck1, Bool.and_eq_true]; exact ⟨by decide +kernel, gX7_tear⟩
theorem hX7_judge : jck1 ((yX7_judge, cX7_judge, 2, (some .int), 0, 7, 0, 0), 7, kX7_judge) = true := by rw [jck1, Bool.and_eq_true]; exact ⟨by decide +kernel, gX7_judge⟩
theorem hX7_seed : jck1 ((yX7_seed, cX7_seed, 3, (some .int), 1, 7, 0, 0), 7, kX7_seed) = true := by rw [jck1, Bool.and_eq_true]; exact ⟨by decide +kernel, gX7_seed⟩
theorem hX7_keep : jck1 ((yX7_keep, cX7_keep, 2, (some .int), 1, 7, 1, 25), 7, kX7_keep) = true := by rw [jck1, Bool.and_eq_true]; exact ⟨by decide +kernel, gX7_keep⟩
theorem hX7_goBack : jck1 ((yX7_goBack, cX7_goBack, 2, (some .int), 1, 7, 1, 25), 7, kX7_goBack) = true := by rw [jck1, Bool.and_eq_true]; exact ⟨by decide +kernel, gX7_goBack⟩
theorem hJ6_bitCount_0f7a4 : jck1 ((yJ6_bitCount_0f7a4, cJ6_bitCount_0f7a4, 1, (some .int), 1, 99, 0, 0), 8, kJ6_bitCount_0f7a4) = true := by rw [jck1, Bool.and_eq_true]; exact ⟨by decide +kernel, gJ6_bitCount_0f7a4⟩
theorem jcs_ok_0 : ∀ q ∈ ((jMt.drop 0).take 13).zip ((jCs.drop 0).take 13), jck1 q = true := List.forall_mem_cons.mpr ⟨hX0_empty, List.forall_mem_cons.mpr ⟨hX0_takeFrom, List.forall_mem_cons.mpr ⟨hX1_push, List.forall_mem_cons.mpr ⟨hX1_popInto, List.forall_mem_cons.mpr ⟨hX1_forgetAll, List.forall_mem_cons.mpr ⟨hX3_addSeen, List.forall_mem_cons.mpr ⟨hX3_addEntry, List.forall_mem_cons.mpr ⟨hX3_clearAll, List.forall_mem_cons.mpr ⟨hX4_addLetter, List.forall_mem_cons.mpr ⟨hX4_readAll, List.forall_mem_cons.mpr ⟨hX4_readClause, List.forall_mem_cons.mpr ⟨hX4_readGrandfather, List.forall_mem_cons.mpr ⟨hX4_readPerson, fun _ h => absurd h List.not_mem_nil⟩⟩⟩⟩⟩⟩⟩⟩⟩⟩⟩⟩⟩
theorem jcs_ok_1 : ∀ q ∈ ((jMt.drop 13).take 13).zip ((jCs.drop 13).take 13), jck1 q = true := List.forall_mem_cons.mpr ⟨hX4_readPaper, List.forall_mem_cons.mpr ⟨hX4_readCandidate, List.forall_mem_cons.mpr ⟨hX4_readNumber, List.forall_mem_cons.mpr ⟨hX4_readEnd, List.forall_mem_cons.mpr ⟨hX4_fail, List.forall_mem_cons.mpr ⟨hX4_skipBlanks, List.forall_mem_cons.mpr ⟨hX4_letterHere, List.forall_mem_cons.mpr ⟨hX4_isFigure, List.forall_mem_cons.mpr ⟨hX5_empty, List.forall_mem_cons.mpr ⟨hX5_addPaper, List.forall_mem_cons.mpr ⟨hX5_takeFrom, List.forall_mem_cons.mpr ⟨hX6_feed, List.forall_mem_cons.mpr ⟨hX6_clan, fun _ h => absurd h List.not_mem_nil⟩⟩⟩⟩⟩⟩⟩⟩⟩⟩⟩⟩⟩
theorem jcs_ok_2 : ∀ q ∈ ((jMt.drop 26).take 13).zip ((jCs.drop 26).take 13), jck1 q = true := List.forall_mem_cons.mpr ⟨hX6_fault, List.forall_mem_cons.mpr ⟨hX6_told, List.forall_mem_cons.mpr ⟨hX6_person, List.forall_mem_cons.mpr ⟨hX6_paper, List.forall_mem_cons.mpr ⟨hX6_candidate, List.forall_mem_cons.mpr ⟨hX6_year, List.forall_mem_cons.mpr ⟨hX6_teach, List.forall_mem_cons.mpr ⟨hX6_sign, List.forall_mem_cons.mpr ⟨hX6_tearPaper, List.forall_mem_cons.mpr ⟨hX6_drift, List.forall_mem_cons.mpr ⟨hX6_undo, List.forall_mem_cons.mpr ⟨hX6_whose, List.forall_mem_cons.mpr ⟨hX6_odds, fun _ h => absurd h List.not_mem_nil⟩⟩⟩⟩⟩⟩⟩⟩⟩⟩⟩⟩⟩
theorem jcs_ok_3 : ∀ q ∈ ((jMt.drop 39).take 13).zip ((jCs.drop 39).take 13), jck1 q = true := List.forall_mem_cons.mpr ⟨hX6_marks, List.forall_mem_cons.mpr ⟨hX6_tree, List.forall_mem_cons.mpr ⟨hX6_kin, List.forall_mem_cons.mpr ⟨hX6_most, List.forall_mem_cons.mpr ⟨hX6_clash, List.forall_mem_cons.mpr ⟨hX6_forged, List.forall_mem_cons.mpr ⟨hX6_makers, List.forall_mem_cons.mpr ⟨hX6_heir, List.forall_mem_cons.mpr ⟨hX6_sham, List.forall_mem_cons.mpr ⟨hX6_love, List.forall_mem_cons.mpr ⟨hX6_vote, List.forall_mem_cons.mpr ⟨hX6_turned, List.forall_mem_cons.mpr ⟨hX6_one, fun _ h => absurd h List.not_mem_nil⟩⟩⟩⟩⟩⟩⟩⟩⟩⟩⟩⟩⟩
theorem jcs_ok_4 : ∀ q ∈ ((jMt.drop 52).take 13).zip ((jCs.drop 52).take 13), jck1 q = true := List.forall_mem_cons.mpr ⟨hX6_see, List.forall_mem_cons.mpr ⟨hX6_madeBy, List.forall_mem_cons.mpr ⟨hX6_lookAt, List.forall_mem_cons.mpr ⟨hX6_write, List.forall_mem_cons.mpr ⟨hX6_tear, List.forall_mem_cons.mpr ⟨hX6_judge, List.forall_mem_cons.mpr ⟨hX6_seed, List.forall_mem_cons.mpr ⟨hX6_keep, List.forall_mem_cons.mpr ⟨hX6_goBack, List.forall_mem_cons.mpr ⟨hX6_isPerson, List.forall_mem_cons.mpr ⟨hX6_isPaper, List.forall_mem_cons.mpr ⟨hX6_isCandidate, List.forall_mem_cons.mpr ⟨hX6_isImage, fun _ h => absurd h List.not_mem_nil⟩⟩⟩⟩⟩⟩⟩⟩⟩⟩⟩⟩⟩
theorem jcs_ok_5 : ∀ q ∈ ((jMt.drop 65).take 13).zip ((jCs.drop 65).take 13), jck1 q = true := List.forall_mem_cons.mpr ⟨hX6_isMark, List.forall_mem_cons.mpr ⟨hX6_part, List.forall_mem_cons.mpr ⟨hX6_apart, List.forall_mem_cons.mpr ⟨hX6_within, List.forall_mem_cons.mpr ⟨hX6_passes, List.forall_mem_cons.mpr ⟨hX6_passSet, List.forall_mem_cons.mpr ⟨hX6_passCount, List.forall_mem_cons.mpr ⟨hX6_weight, List.forall_mem_cons.mpr ⟨hX6_toldApart, List.forall_mem_cons.mpr ⟨hX6_allToldApart, List.forall_mem_cons.mpr ⟨hX6_nearestTo, List.forall_mem_cons.mpr ⟨hX6_nextOfTree, List.forall_mem_cons.mpr ⟨hX6_joinGroups, fun _ h => absurd h List.not_mem_nil⟩⟩⟩⟩⟩⟩⟩⟩⟩⟩⟩⟩⟩
theorem jcs_ok_6 : ∀ q ∈ ((jMt.drop 78).take 13).zip ((jCs.drop 78).take 13), jck1 q = true := List.forall_mem_cons.mpr ⟨hX6_choice, List.forall_mem_cons.mpr ⟨hX6_greatestAlike, List.forall_mem_cons.mpr ⟨hX6_passYears, List.forall_mem_cons.mpr ⟨hX6_aged, List.forall_mem_cons.mpr ⟨hX6_shakeOnce, List.forall_mem_cons.mpr ⟨hX6_draw, List.forall_mem_cons.mpr ⟨hX7_in, List.forall_mem_cons.mpr ⟨hX7_has, List.forall_mem_cons.mpr ⟨hX7_ones, List.forall_mem_cons.mpr ⟨hX7_copy, List.forall_mem_cons.mpr ⟨hX7_isMark, List.forall_mem_cons.mpr ⟨hX7_isPerson, List.forall_mem_cons.mpr ⟨hX7_isPaper, fun _ h => absurd h List.not_mem_nil⟩⟩⟩⟩⟩⟩⟩⟩⟩⟩⟩⟩⟩
theorem jcs_ok_7 : ∀ q ∈ ((jMt.drop 91).take 13).zip ((jCs.drop 91).take 13), jck1 q = true := List.forall_mem_cons.mpr ⟨hX7_isCandidate, List.forall_mem_cons.mpr ⟨hX7_feed, List.forall_mem_cons.mpr ⟨hX7_letterAt, List.forall_mem_cons.mpr ⟨hX7_here, List.forall_mem_cons.mpr ⟨hX7_fails, List.forall_mem_cons.mpr ⟨hX7_takes, List.forall_mem_cons.mpr ⟨hX7_takesNumber, List.forall_mem_cons.mpr ⟨hX7_takesGrand, List.forall_mem_cons.mpr ⟨hX7_takesPerson, List.forall_mem_cons.mpr ⟨hX7_takesPaper, List.forall_mem_cons.mpr ⟨hX7_takesCandidate, List.forall_mem_cons.mpr ⟨hX7_takesClause, List.forall_mem_cons.mpr ⟨hX7_clan, fun _ h => absurd h List.not_mem_nil⟩⟩⟩⟩⟩⟩⟩⟩⟩⟩⟩⟩⟩
theorem jcs_ok_8 : ∀ q ∈ ((jMt.drop 104).take 13).zip ((jCs.drop 104).take 13), jck1 q = true := List.forall_mem_cons.mpr ⟨hX7_fault, List.forall_mem_cons.mpr ⟨hX7_told, List.forall_mem_cons.mpr ⟨hX7_partOf, List.forall_mem_cons.mpr ⟨hX7_off, List.forall_mem_cons.mpr ⟨hX7_apart, List.forall_mem_cons.mpr ⟨hX7_isNear, List.forall_mem_cons.mpr ⟨hX7_passesFor, List.forall_mem_cons.mpr ⟨hX7_person, List.forall_mem_cons.mpr ⟨hX7_paper, List.forall_mem_cons.mpr ⟨hX7_candidate, List.forall_mem_cons.mpr ⟨hX7_minds, List.forall_mem_cons.mpr ⟨hX7_undo, List.forall_mem_cons.mpr ⟨hX7_passesYear, fun _ h => absurd h List.not_mem_nil⟩⟩⟩⟩⟩⟩⟩⟩⟩⟩⟩⟩⟩
theorem jcs_ok_9 : ∀ q ∈ ((jMt.drop 117).take 13).zip ((jCs.drop 117).take 13), jck1 q = true := List.forall_mem_cons.mpr ⟨hX7_year, List.forall_mem_cons.mpr ⟨hX7_teach, List.forall_mem_cons.mpr ⟨hX7_sign, List.forall_mem_cons.mpr ⟨hX7_tearPaper, List.forall_mem_cons.mpr ⟨hX7_draw, List.forall_mem_cons.mpr ⟨hX7_shaken, List.forall_mem_cons.mpr ⟨hX7_drift, List.forall_mem_cons.mpr ⟨hX7_whoseIs, List.forall_mem_cons.mpr ⟨hX7_whose, List.forall_mem_cons.mpr ⟨hX7_marksOf, List.forall_mem_cons.mpr ⟨hX7_odds, List.forall_mem_cons.mpr ⟨hX7_marks, List.forall_mem_cons.mpr ⟨hX7_between, fun _ h => absurd h List.not_mem_nil⟩⟩⟩⟩⟩⟩⟩⟩⟩⟩⟩⟩⟩
theorem jcs_ok_10 : ∀ q ∈ ((jMt.drop 130).take 13).zip ((jCs.drop 130).take 13), jck1 q = true := List.forall_mem_cons.mpr ⟨hX7_tree, List.forall_mem_cons.mpr ⟨hX7_kinOf, List.forall_mem_cons.mpr ⟨hX7_kin, List.forall_mem_cons.mpr ⟨hX7_areToldApart, List.forall_mem_cons.mpr ⟨hX7_most, List.forall_mem_cons.mpr ⟨hX7_clash, List.forall_mem_cons.mpr ⟨hX7_forged, List.forall_mem_cons.mpr ⟨hX7_makers, List.forall_mem_cons.mpr ⟨hX7_heir, List.forall_mem_cons.mpr ⟨hX7_sham, List.forall_mem_cons.mpr ⟨hX7_love, List.forall_mem_cons.mpr ⟨hX7_voteOf, List.forall_mem_cons.mpr ⟨hX7_vote, fun _ h => absurd h List.not_mem_nil⟩⟩⟩⟩⟩⟩⟩⟩⟩⟩⟩⟩⟩
theorem jcs_ok_11 : ∀ q ∈ ((jMt.drop 143).take 13).zip ((jCs.drop 143).take 13), jck1 q = true := List.forall_mem_cons.mpr ⟨hX7_turned, List.forall_mem_cons.mpr ⟨hX7_one, List.forall_mem_cons.mpr ⟨hX7_see, List.forall_mem_cons.mpr ⟨hX7_makersOfSeen, List.forall_mem_cons.mpr ⟨hX7_madeBy, List.forall_mem_cons.mpr ⟨hX7_lookAt, List.forall_mem_cons.mpr ⟨hX7_write, List.forall_mem_cons.mpr ⟨hX7_tear, List.forall_mem_cons.mpr ⟨hX7_judge, List.forall_mem_cons.mpr ⟨hX7_seed, List.forall_mem_cons.mpr ⟨hX7_keep, List.forall_mem_cons.mpr ⟨hX7_goBack, List.forall_mem_cons.mpr ⟨hJ6_bitCount_0f7a4, fun _ h => absurd h List.not_mem_nil⟩⟩⟩⟩⟩⟩⟩⟩⟩⟩⟩⟩⟩
theorem jcs_at {a : Nat} {r : jR} {z : Nat × List jI} (h : jMt[a]? = some r) (hz : jCs[a]? = some z) : jck1 (r, z) = true := by
  have key : ∀ (d : Nat), d ≤ a → a < d + 13 → (∀ q ∈ ((jMt.drop d).take 13).zip ((jCs.drop d).take 13), jck1 q = true) → jck1 (r, z) = true := by
    intro d h1 h2 hall
    refine hall (r, z) (List.mem_of_getElem? (i := a - d) ?_)
    rw [List.getElem?_zip_eq_some]
    rw [List.getElem?_take, List.getElem?_take, List.getElem?_drop, List.getElem?_drop, if_pos (by omega), if_pos (by omega), show d + (a - d) = a by omega]
    exact ⟨h, hz⟩
  have hl : a < jMt.length := (List.getElem?_eq_some_iff.mp h).1
  have hn : jMt.length = 156 := by decide +kernel
  rcases (show (0 ≤ a ∧ a < 13) ∨ (13 ≤ a ∧ a < 26) ∨ (26 ≤ a ∧ a < 39) ∨ (39 ≤ a ∧ a < 52) ∨ (52 ≤ a ∧ a < 65) ∨ (65 ≤ a ∧ a < 78) ∨ (78 ≤ a ∧ a < 91) ∨ (91 ≤ a ∧ a < 104) ∨ (104 ≤ a ∧ a < 117) ∨ (117 ≤ a ∧ a < 130) ∨ (130 ≤ a ∧ a < 143) ∨ (143 ≤ a ∧ a < 156) by omega) with h1 | h1 | h1 | h1 | h1 | h1 | h1 | h1 | h1 | h1 | h1 | h1
  · exact key 0 h1.1 (by omega) jcs_ok_0
  · exact key 13 h1.1 (by omega) jcs_ok_1
  · exact key 26 h1.1 (by omega) jcs_ok_2
  · exact key 39 h1.1 (by omega) jcs_ok_3
  · exact key 52 h1.1 (by omega) jcs_ok_4
  · exact key 65 h1.1 (by omega) jcs_ok_5
  · exact key 78 h1.1 (by omega) jcs_ok_6
  · exact key 91 h1.1 (by omega) jcs_ok_7
  · exact key 104 h1.1 (by omega) jcs_ok_8
  · exact key 117 h1.1 (by omega) jcs_ok_9
  · exact key 130 h1.1 (by omega) jcs_ok_10
  · exact key 143 h1.1 (by omega) jcs_ok_11
/-- what method a does, with calls at most d deep -/
def jOl (N : Nat) (K : Nat → jSh) : Nat → jO
  | 0 => fun _ _ _ _ => False
  | d + 1 => fun a as x Qr => match jMt[a]?, jCs[a]? with
    | some r, some z => (jent as).length ≤ r.2.2.1 ∧ ∃ n, jwp (jOl N K d) N K z.2 Qr n 0 (jenL r.2.2.1 as) [] x
    | _, _ => False
theorem jall (l : Launch) (N : Nat) (K : Nat → jSh) : ∀ (d a : Nat) (r : jR), jMt[a]? = some r → jMet l r.1 (.code r.1 r.2.1 r.2.2.1 r.2.2.2.1 :: jt) (jrm r) N K (jOl N K d a) := by
  intro d
  induction d with
  | zero => intro a r _ D cy ad as x Qr sz h; exact False.elim h
  | succ d ih =>
    intro a r hr D cy ad as x Qr sz h
    unfold jOl at h
    rw [hr] at h
    split at h
    · next r' z h1 h2 =>
      cases h1
      have hk := jcs_at hr h2
      simp only [jck1, Bool.and_eq_true, decide_eq_true_eq] at hk
      exact jbody (jMt_words hr).2.2.2.1 hk.1 ih hk.2 D cy ad as x Qr sz h
    · exact False.elim h
end
section
/-! CONSTRUCTORS: tables -/
abbrev jC : Type := MethodName × ByteArray × Nat × Nat × Nat × Nat × Nat
def jCt : List jC := [(yX0_init, cX0_init, 1, 1, 26, 3, 20),
  (yX1_init, cX1_init, 2, 2, 46, 81, 600),
  (yX2_init, cX2_init, 1, 2, 46, 4, 29),
  (yX3_init, cX3_init, 1, 1, 26, 3, 38),
  (yX4_init, cX4_init, 1, 2, 46, 9, 296),
  (yX5_init, cX5_init, 1, 1, 26, 3, 24),
  (yX6_init, cX6_init, 2, 3, 67, 120, 1108),
  (yX7_init, cX7_init, 1, 1, 26, 14, 1008)]
def jdl : List (List Nat) := [[0, 0, 0, 1, 1, 0, 1], [1, 0, 0], [0, 1, 0], [0, 1, 0, 1, 1], [1, 0, 1, 1, 0, 0, 0], [1, 0, 1, 1, 0], [1, 1, 1, 1, 1, 1, 1, 1, 0, 0], [1, 1, 0, 0, 0, 0, 1, 1, 0, 1, 1, 0, 0, 0, 0, 0, 0, 0, 0, 0, 1, 0, 1, 0, 1, 1, 1, 0, 1, 0, 1, 1]]
def jdf (a k : Nat) : Nat := (jdl.getD a []).getD k 1
def jfc (a : Nat) : Nat := (jdl.getD a []).length
def jNt : List (Nat × Nat × Nat) := [(6, 9, 4), (4, 17, 0), (4, 24, 5), (6, 18, 0), (6, 25, 5), (1, 17, 5), (6, 46, 2), (2, 9, 5), (6, 49, 3)]
def jIl : List (Nat × Nat × Nat × Nat) := [(9, 9, 6, 67), (6, 35, 1, 183), (9, 12, 7, 644)]
def jZl : List (Nat × Nat × Nat) := [(6, 1, 70), (4, 3, 78), (0, 3, 84), (5, 3, 127), (1, 3, 186), (2, 1, 207), (3, 3, 226), (7, 1, 647)]
def jQl : List (Nat × Nat × Nat × Nat) := [(9, 7, 6, 65), (6, 7, 4, 73), (4, 15, 0, 79), (4, 22, 5, 122), (6, 16, 0, 177), (6, 23, 5, 179), (6, 33, 1, 181), (1, 9, 5, 187), (6, 40, 2, 201), (2, 7, 5, 208), (6, 47, 3, 221), (9, 10, 7, 642)]
def jCp : List (Nat × Nat × Nat × Nat) := [(83, 56, 82, 80), (185, 58, 184, 182), (206, 59, 205, 203), (225, 60, 224, 222), (77, 55, 76, 74), (126, 57, 125, 123), (69, 54, 68, 66), (646, 61, 645, 643)]
def jCok (r : jC) (a : Nat) (z : Nat × Nat × Nat × Nat) : Bool := jat z.1 (Cond.code r.1 r.2.1 r.2.2.1 none) && (jat z.2.1 (Cond.initialized r.1.cls) && (decide (r.1.cls ≠ "java/lang/invoke/MethodHandle" ∧ r.1.cls ≠ "java/lang/invoke/VarHandle") && (decide ((parseMethodDescriptor r.1.desc).map (fun d => d.parameters.length) = some 0) && (plainName r.1.cls && (jat z.2.2.1 (Cond.instanceMethod r.1) && (decide (r.1.name = "<init>") && (decide (r.1.cls = jcn a) && (jat z.2.2.2 (Cond.instantiable (jcn a) (jfc a)) && (match vwCl[a]? with
  | some q => decide (q.1 = jcn a) && decide (q.2.2 = jfc a)
  | none => false)))))))))
theorem jCt_ok : ∀ a, a < 8 → ∃ r z, jCt[a]? = some r ∧ jCok r a z = true := by
  have h : (List.range 8).all (fun a => match jCt[a]?, jCp[a]? with
    | some r, some z => jCok r a z
    | _, _ => false) = true := by decide +kernel
  intro a ha
  have h1 := List.all_eq_true.mp h a (List.mem_range.mpr ha)
  split at h1
  · next r z h2 h3 => exact ⟨r, z, h2, h1⟩
  · cases h1
theorem jIl_ok : jIl.all (fun q => match jCt[q.2.2.1]? with
    | some r => jat q.2.2.2 (Cond.methodLink (jcn q.1) q.2.1 r.1)
    | none => false) = true := by decide +kernel
theorem jZl_ok : jZl.all (fun q => jat q.2.2 (Cond.methodLink (jcn q.1) q.2.1 objectInit)) = true := by decide +kernel
theorem jQl_ok : jQl.all (fun q => jat q.2.2.2 (Cond.classLink (jcn q.1) q.2.1 (jcn q.2.2.1))) = true := by decide +kernel
theorem jobi : Cond.instanceMethod objectInit ∈ jt ∧ Cond.code objectInit ⟨#[0xb1]⟩ 1 none ∈ jt := ⟨jat_in (i := 71) (by decide +kernel), jat_in (i := 72) (by decide +kernel)⟩
theorem jarc : Cond.arrayClass .int ∈ jt ∧ Cond.arrayClass .boolean ∈ jt := ⟨jat_in (i := 121) (by decide +kernel), jat_in (i := 745) (by decide +kernel)⟩
theorem jdf_ok : ∀ a, a < 8 → ∀ q : vw_C, vwCl[a]? = some q → ∀ k, k < q.2.2 → (parseFieldDescriptor (q.2.1 k).2.2.1).map defaultValue = some (if jdf a k = 0 then .int 0 else .null) ∧ jdf a k ≤ 1 := by
  have h : (List.range 8).all (fun a => match vwCl[a]? with
    | some q => (List.range q.2.2).all (fun k => decide ((parseFieldDescriptor (q.2.1 k).2.2.1).map defaultValue = some (if jdf a k = 0 then .int 0 else .null)) && decide (jdf a k ≤ 1))
    | none => true) = true := by decide +kernel
  intro a ha q hq k hk
  have h1 := List.all_eq_true.mp h a (List.mem_range.mpr ha)
  rw [hq] at h1
  have h2 := List.all_eq_true.mp h1 k (List.mem_range.mpr hk)
  simpa using h2
def kC0 : List jI := [(0, .aload_n 0, 1, 0, 0, 0, []),
  (1, .invokespecial 3, 3, 0, 0, 0, []),
  (4, .aload_n 0, 1, 0, 0, 0, []),
  (5, .bipush 8, 2, 0, 0, 8, []),
  (7, .newarray .int, 2, 8, 0, 0, []),
  (9, .putfield 9, 3, 0, 3, 2, []),
  (12, .aload_n 0, 1, 0, 0, 0, []),
  (13, .bipush 8, 2, 0, 0, 8, []),
  (15, .newarray .int, 2, 8, 0, 0, []),
  (17, .putfield 15, 3, 0, 4, 2, []),
  (20, .aload_n 0, 1, 0, 0, 0, []),
  (21, .iconst 4, 1, 0, 0, 4, []),
  (22, .newarray .int, 2, 8, 0, 0, []),
  (24, .putfield 18, 3, 0, 6, 2, []),
  (27, .return_, 1, 0, 0, 0, [])]
def kC1 : List jI := [(0, .aload_n 0, 1, 0, 0, 0, []),
  (1, .invokespecial 3, 3, 0, 0, 0, []),
  (4, .aload_n 0, 1, 0, 0, 0, []),
  (5, .bipush 20, 2, 0, 0, 20, []),
  (7, .anewarray 9, 3, 11, 0, 0, []),
  (10, .putfield 11, 3, 1, 0, 2, []),
  (13, .iconst 0, 1, 0, 0, 0, []),
  (14, .istore_n 1, 1, 1, 0, 0, []),
  (15, .iload_n 1, 1, 1, 0, 0, []),
  (16, .bipush 20, 2, 0, 0, 20, []),
  (18, .if_icmp .ge 22, 3, 0, 0, 0, [20]),
  (21, .aload_n 0, 1, 0, 0, 0, []),
  (22, .getfield 11, 3, 1, 0, 0, []),
  (25, .iload_n 1, 1, 1, 0, 0, []),
  (26, .new 9, 3, 5, 0, 0, []),
  (29, .dup, 1, 0, 0, 0, []),
  (30, .invokespecial 17, 3, 5, 0, 2, []),
  (33, .aastore, 1, 11, 0, 0, []),
  (34, .iinc 1 1, 3, 1, 0, 1, []),
  (37, .goto (-22), 3, 0, 0, 0, [8]),
  (40, .return_, 1, 0, 0, 0, [])]
def kC2 : List jI := [(0, .aload_n 0, 1, 0, 0, 0, []),
  (1, .invokespecial 1, 3, 0, 0, 0, []),
  (4, .aload_n 0, 1, 0, 0, 0, []),
  (5, .new 7, 3, 5, 0, 0, []),
  (8, .dup, 1, 0, 0, 0, []),
  (9, .invokespecial 9, 3, 5, 0, 2, []),
  (12, .putfield 10, 3, 2, 1, 2, []),
  (15, .return_, 1, 0, 0, 0, [])]
def kC3 : List jI := [(0, .aload_n 0, 1, 0, 0, 0, []),
  (1, .invokespecial 3, 3, 0, 0, 0, []),
  (4, .aload_n 0, 1, 0, 0, 0, []),
  (5, .bipush 8, 2, 0, 0, 8, []),
  (7, .newarray .int, 2, 8, 0, 0, []),
  (9, .putfield 9, 3, 3, 1, 2, []),
  (12, .aload_n 0, 1, 0, 0, 0, []),
  (13, .bipush 15, 2, 0, 0, 15, []),
  (15, .newarray .int, 2, 8, 0, 0, []),
  (17, .putfield 15, 3, 3, 3, 2, []),
  (20, .aload_n 0, 1, 0, 0, 0, []),
  (21, .bipush 15, 2, 0, 0, 15, []),
  (23, .newarray .int, 2, 8, 0, 0, []),
  (25, .putfield 18, 3, 3, 4, 2, []),
  (28, .return_, 1, 0, 0, 0, [])]
def kC4 : List jI := [(0, .aload_n 0, 1, 0, 0, 0, []),
  (1, .invokespecial 3, 3, 0, 0, 0, []),
  (4, .aload_n 0, 1, 0, 0, 0, []),
  (5, .sipush 240, 3, 0, 0, 240, []),
  (8, .newarray .int, 2, 8, 0, 0, []),
  (10, .putfield 9, 3, 4, 0, 2, []),
  (13, .aload_n 0, 1, 0, 0, 0, []),
  (14, .new 15, 3, 0, 0, 0, []),
  (17, .dup, 1, 0, 0, 0, []),
  (18, .invokespecial 17, 3, 0, 0, 2, []),
  (21, .putfield 18, 3, 4, 2, 2, []),
  (24, .aload_n 0, 1, 0, 0, 0, []),
  (25, .new 22, 3, 5, 0, 0, []),
  (28, .dup, 1, 0, 0, 0, []),
  (29, .invokespecial 24, 3, 5, 0, 2, []),
  (32, .putfield 25, 3, 4, 3, 2, []),
  (35, .return_, 1, 0, 0, 0, [])]
def kC5 : List jI := [(0, .aload_n 0, 1, 0, 0, 0, []),
  (1, .invokespecial 3, 3, 0, 0, 0, []),
  (4, .aload_n 0, 1, 0, 0, 0, []),
  (5, .bipush 8, 2, 0, 0, 8, []),
  (7, .newarray .int, 2, 8, 0, 0, []),
  (9, .putfield 9, 3, 5, 0, 2, []),
  (12, .aload_n 0, 1, 0, 0, 0, []),
  (13, .bipush 8, 2, 0, 0, 8, []),
  (15, .newarray .int, 2, 8, 0, 0, []),
  (17, .putfield 15, 3, 5, 2, 2, []),
  (20, .aload_n 0, 1, 0, 0, 0, []),
  (21, .bipush 8, 2, 0, 0, 8, []),
  (23, .newarray .int, 2, 8, 0, 0, []),
  (25, .putfield 18, 3, 5, 3, 2, []),
  (28, .return_, 1, 0, 0, 0, [])]
def kC6 : List jI := [(0, .aload_n 0, 1, 0, 0, 0, []),
  (1, .invokespecial 1, 3, 0, 0, 0, []),
  (4, .aload_n 0, 1, 0, 0, 0, []),
  (5, .new 7, 3, 4, 0, 0, []),
  (8, .dup, 1, 0, 0, 0, []),
  (9, .invokespecial 9, 3, 4, 0, 2, []),
  (12, .putfield 10, 3, 6, 0, 2, []),
  (15, .aload_n 0, 1, 0, 0, 0, []),
  (16, .new 16, 3, 0, 0, 0, []),
  (19, .dup, 1, 0, 0, 0, []),
  (20, .invokespecial 18, 3, 0, 0, 2, []),
  (23, .putfield 19, 3, 6, 1, 2, []),
  (26, .aload_n 0, 1, 0, 0, 0, []),
  (27, .new 23, 3, 5, 0, 0, []),
  (30, .dup, 1, 0, 0, 0, []),
  (31, .invokespecial 25, 3, 5, 0, 2, []),
  (34, .putfield 26, 3, 6, 2, 2, []),
  (37, .aload_n 0, 1, 0, 0, 0, []),
  (38, .new 23, 3, 5, 0, 0, []),
  (41, .dup, 1, 0, 0, 0, []),
  (42, .invokespecial 25, 3, 5, 0, 2, []),
  (45, .putfield 30, 3, 6, 3, 2, []),
  (48, .aload_n 0, 1, 0, 0, 0, []),
  (49, .new 33, 3, 1, 0, 0, []),
  (52, .dup, 1, 0, 0, 0, []),
  (53, .invokespecial 35, 3, 1, 0, 1, []),
  (56, .putfield 36, 3, 6, 4, 2, []),
  (59, .aload_n 0, 1, 0, 0, 0, []),
  (60, .iconst 2, 1, 0, 0, 2, []),
  (61, .anewarray 40, 3, 10, 0, 0, []),
  (64, .putfield 42, 3, 6, 5, 2, []),
  (67, .iconst 0, 1, 0, 0, 0, []),
  (68, .istore_n 1, 1, 1, 0, 0, []),
  (69, .iload_n 1, 1, 1, 0, 0, []),
  (70, .iconst 2, 1, 0, 0, 2, []),
  (71, .if_icmp .ge 22, 3, 0, 0, 0, [45]),
  (74, .aload_n 0, 1, 0, 0, 0, []),
  (75, .getfield 42, 3, 6, 5, 0, []),
  (78, .iload_n 1, 1, 1, 0, 0, []),
  (79, .new 40, 3, 2, 0, 0, []),
  (82, .dup, 1, 0, 0, 0, []),
  (83, .invokespecial 46, 3, 2, 0, 2, []),
  (86, .aastore, 1, 10, 0, 0, []),
  (87, .iinc 1 1, 3, 1, 0, 1, []),
  (90, .goto (-21), 3, 0, 0, 0, [33]),
  (93, .aload_n 0, 1, 0, 0, 0, []),
  (94, .new 47, 3, 3, 0, 0, []),
  (97, .dup, 1, 0, 0, 0, []),
  (98, .invokespecial 49, 3, 3, 0, 2, []),
  (101, .putfield 50, 3, 6, 6, 2, []),
  (104, .aload_n 0, 1, 0, 0, 0, []),
  (105, .bipush 8, 2, 0, 0, 8, []),
  (107, .newarray .int, 2, 8, 0, 0, []),
  (109, .putfield 54, 3, 6, 7, 2, []),
  (112, .aload_n 0, 1, 0, 0, 0, []),
  (113, .iconst 0, 1, 0, 0, 0, []),
  (114, .putfield 58, 3, 6, 8, 0, []),
  (117, .aload_n 0, 1, 0, 0, 0, []),
  (118, .iconst (-1), 1, 0, 0, -1, []),
  (119, .putfield 62, 3, 6, 9, 0, []),
  (122, .return_, 1, 0, 0, 0, [])]
def kC7 : List jI := [(0, .aload_n 0, 1, 0, 0, 0, []),
  (1, .invokespecial 1, 3, 0, 0, 0, []),
  (4, .aload_n 0, 1, 0, 0, 0, []),
  (5, .sipush 648, 3, 0, 0, 648, []),
  (8, .newarray .int, 2, 8, 0, 0, []),
  (10, .putfield 7, 3, 7, 0, 2, []),
  (13, .aload_n 0, 1, 0, 0, 0, []),
  (14, .iconst 2, 1, 0, 0, 2, []),
  (15, .newarray .boolean, 2, 9, 0, 0, []),
  (17, .putfield 13, 3, 7, 1, 2, []),
  (20, .aload_n 0, 1, 0, 0, 0, []),
  (21, .bipush 8, 2, 0, 0, 8, []),
  (23, .newarray .int, 2, 8, 0, 0, []),
  (25, .putfield 17, 3, 7, 6, 2, []),
  (28, .aload_n 0, 1, 0, 0, 0, []),
  (29, .bipush 8, 2, 0, 0, 8, []),
  (31, .newarray .int, 2, 8, 0, 0, []),
  (33, .putfield 20, 3, 7, 7, 2, []),
  (36, .aload_n 0, 1, 0, 0, 0, []),
  (37, .iconst 4, 1, 0, 0, 4, []),
  (38, .newarray .int, 2, 8, 0, 0, []),
  (40, .putfield 23, 3, 7, 9, 2, []),
  (43, .aload_n 0, 1, 0, 0, 0, []),
  (44, .sipush 240, 3, 0, 0, 240, []),
  (47, .newarray .int, 2, 8, 0, 0, []),
  (49, .putfield 26, 3, 7, 10, 2, []),
  (52, .aload_n 0, 1, 0, 0, 0, []),
  (53, .iconst (-1), 1, 0, 0, -1, []),
  (54, .putfield 29, 3, 7, 16, 0, []),
  (57, .aload_n 0, 1, 0, 0, 0, []),
  (58, .bipush 24, 2, 0, 0, 24, []),
  (60, .newarray .int, 2, 8, 0, 0, []),
  (62, .putfield 33, 3, 7, 20, 2, []),
  (65, .aload_n 0, 1, 0, 0, 0, []),
  (66, .bipush 16, 2, 0, 0, 16, []),
  (68, .newarray .int, 2, 8, 0, 0, []),
  (70, .putfield 36, 3, 7, 22, 2, []),
  (73, .aload_n 0, 1, 0, 0, 0, []),
  (74, .iconst 4, 1, 0, 0, 4, []),
  (75, .newarray .int, 2, 8, 0, 0, []),
  (77, .putfield 39, 3, 7, 24, 2, []),
  (80, .aload_n 0, 1, 0, 0, 0, []),
  (81, .bipush 8, 2, 0, 0, 8, []),
  (83, .newarray .int, 2, 8, 0, 0, []),
  (85, .putfield 42, 3, 7, 25, 2, []),
  (88, .aload_n 0, 1, 0, 0, 0, []),
  (89, .bipush 8, 2, 0, 0, 8, []),
  (91, .newarray .int, 2, 8, 0, 0, []),
  (93, .putfield 45, 3, 7, 26, 2, []),
  (96, .aload_n 0, 1, 0, 0, 0, []),
  (97, .bipush 8, 2, 0, 0, 8, []),
  (99, .newarray .int, 2, 8, 0, 0, []),
  (101, .putfield 48, 3, 7, 28, 2, []),
  (104, .aload_n 0, 1, 0, 0, 0, []),
  (105, .bipush 15, 2, 0, 0, 15, []),
  (107, .newarray .int, 2, 8, 0, 0, []),
  (109, .putfield 51, 3, 7, 30, 2, []),
  (112, .aload_n 0, 1, 0, 0, 0, []),
  (113, .bipush 15, 2, 0, 0, 15, []),
  (115, .newarray .int, 2, 8, 0, 0, []),
  (117, .putfield 54, 3, 7, 31, 2, []),
  (120, .aload_n 0, 1, 0, 0, 0, []),
  (121, .iconst 0, 1, 0, 0, 0, []),
  (122, .putfield 57, 3, 7, 3, 1, []),
  (125, .return_, 1, 0, 0, 0, [])]
def jCc : List (List jI) := [kC0, kC1, kC2, kC3, kC4, kC5, kC6, kC7]
end
section
/-! CONSTRUCTORS: memory that grows; a run of them is a function -/
abbrev jM2 : Type := Nat × (Nat → jSh) × jM
abbrev jS2 : Type := Nat × List (Option Value) × List Value × jM2 × Nat × Nat
def jKp (K : Nat → jSh) (o : Nat) (h : jSh) : Nat → jSh := fun i => if i = o then h else K i
def jKs (K : Nat → jSh) (o k j : Nat) : Nat → jSh := jKp K o ((K o).1, (K o).2.1, fun i => if i = k then j else (K o).2.2 i)
def jadp (ad : Nat → Nat) (N q : Nat) : Nat → Nat := fun i => if i = N then q else ad i
def jwf (N : Nat) (K : Nat → jSh) : Prop := ∀ i k j, i < N → k < (K i).2.1 → (K i).2.2 k = j + 2 → j < N
def jwL (N : Nat) (L : List (Option Value)) : Prop := ∀ (i j : Nat), L[i]? = some (some (.ref j)) → j < N ∨ j = 200
def jwS (N : Nat) (st : List Value) : Prop := ∀ j : Nat, Value.ref j ∈ st → j < N
def jicB (cd : ClassFile.Cond) (v y : Int32) : Bool := match cd with
  | .eq => decide (v = y)
  | .ne => decide (¬ v = y)
  | .lt => decide (v < y)
  | .ge => decide (y ≤ v)
  | .gt => decide (y < v)
  | .le => decide (v ≤ y)
def jq1 (F : Nat → Nat → jM2 → Option jM2) (mc ms : Nat) (q : jI) (S : jS2) : Option jS2 := match q, S with
  | (_, i, _, a, b, c, ts), (k, L, st, (N, K, x), u, w) => match i with
    | .iconst _ => some (k + 1, L, .int (jc c) :: st, (N, K, x), u, w)
    | .bipush _ => some (k + 1, L, .int (jc c) :: st, (N, K, x), u, w)
    | .sipush _ => some (k + 1, L, .int (jc c) :: st, (N, K, x), u, w)
    | .aload_n _ => match L[a]? with
      | some (some (.ref v)) => if v < N then some (k + 1, L, .ref v :: st, (N, K, x), u, w) else none
      | _ => none
    | .iload_n _ => match L[a]? with
      | some (some (.int v)) => some (k + 1, L, .int v :: st, (N, K, x), u, w)
      | _ => none
    | .istore_n _ => match st with
      | .int v :: r => if jsv L a = true then some (k + 1, L.set a (some (.int v)), r, (N, K, x), u, w) else none
      | _ => none
    | .iinc _ _ => match L[a]? with
      | some (some (.int v)) => if jsv L a = true then some (k + 1, L.set a (some (.int (v + jc c))), st, (N, K, x), u, w) else none
      | _ => none
    | .dup => match st with
      | v :: r => if v.category = 1 then some (k + 1, L, v :: v :: r, (N, K, x), u, w) else none
      | _ => none
    | .if_icmp cd _ => match st with
      | .int y :: .int v :: r => some (if jicB cd v y = true then ts.getD 0 0 else k + 1, L, r, (N, K, x), u, w)
      | _ => none
    | .goto _ => some (ts.getD 0 0, L, st, (N, K, x), u, w)
    | .getfield _ => match st with
      | .ref o :: r => if job N K o a b = true then match (K o).2.2 b with
          | j + 2 => some (k + 1, L, .ref j :: r, (N, K, x), u, w)
          | _ => none
        else none
      | _ => none
    | .putfield _ => match st with
      | .int v :: .ref o :: r => if job N K o a b = true ∧ (K o).2.2 b = 0 ∧ (c = 1 → v = 0 ∨ v = 1) ∧ ¬ c = 2 then some (k + 1, L, r, (N, K, ju x o b v), u, w) else none
      | .ref j :: .ref o :: r => if job N K o a b = true ∧ c = 2 then some (k + 1, L, r, (N, jKs K o b (j + 2), x), u, w) else none
      | _ => none
    | .aastore => match st with
      | .ref j :: .int i :: .ref o :: r => if jar N K o a = true ∧ 0 ≤ i ∧ i.toNatClampNeg < (K o).2.1 ∧ ((a = 10 ∧ (K j).1 = 2) ∨ (a = 11 ∧ (K j).1 = 5)) then some (k + 1, L, r, (N, jKs K o i.toNatClampNeg (j + 2), x), u, w) else none
      | _ => none
    | .new _ => if N < 200 ∧ u + 1 ≤ mc ∧ w + jfc a ≤ ms then some (k + 1, L, .ref N :: st, (N + 1, jKp K N (a, jfc a, jdf a), jua x N (fun _ => 0)), u + 1, w + jfc a) else none
    | .newarray _ => match st with
      | .int n :: r => if N < 200 ∧ 0 ≤ n ∧ n.toNatClampNeg ≤ 1000 ∧ u + 1 ≤ mc ∧ w + n.toNatClampNeg ≤ ms then some (k + 1, L, .ref N :: r, (N + 1, jKp K N (a, n.toNatClampNeg, fun _ => 0), jua x N (fun _ => 0)), u + 1, w + n.toNatClampNeg) else none
      | _ => none
    | .anewarray _ => match st with
      | .int n :: r => if N < 200 ∧ 0 ≤ n ∧ n.toNatClampNeg ≤ 1000 ∧ u + 1 ≤ mc ∧ w + n.toNatClampNeg ≤ ms then some (k + 1, L, .ref N :: r, (N + 1, jKp K N (a, n.toNatClampNeg, fun _ => 1), jua x N (fun _ => 0)), u + 1, w + n.toNatClampNeg) else none
      | _ => none
    | .invokespecial _ => match st with
      | .ref o :: r => if c = 0 then (if jcs r = true then some (k + 1, L, r, (N, K, x), u, w) else none) else match jCt[a]? with
          | some q => if jcs r = true ∧ u + q.2.2.2.2.2.1 ≤ mc ∧ w + q.2.2.2.2.2.2 ≤ ms then match F a o (N, K, x) with
              | some M => some (k + 1, L, r, M, u + q.2.2.2.2.2.1, w + q.2.2.2.2.2.2)
              | none => none
            else none
          | none => none
      | _ => none
    | _ => none
def jq (F : Nat → Nat → jM2 → Option jM2) (mc ms : Nat) (code : List jI) : Nat → jS2 → Option jM2
  | 0, _ => none
  | n + 1, S => match code[S.1]? with
    | none => none
    | some q => match q.2.1 with
      | .return_ => if S.2.2.1 = [] then some S.2.2.2.1 else none
      | _ => match jq1 F mc ms q S with
        | some S' => jq F mc ms code n S'
        | none => none
/-- constructor a upon the object o, calls at most d deep -/
def jF : Nat → Nat → Nat → jM2 → Option jM2
  | 0, _, _, _ => none
  | d + 1, a, o, M => match jCt[a]?, jCc[a]? with
    | some r, some code => jq (jF d) r.2.2.2.2.2.1 r.2.2.2.2.2.2 code 400 (0, jenL r.2.2.1 [.ref o], [], M, 0, 0)
    | _, _ => none
/-! the world grows -/
theorem jce_ext {ad ad' : Nat → Nat} {cy : Nat → ClassId} {h : jSh} {f : Nat → Int32} (hh : ∀ k j, k < h.2.1 → h.2.2 k = j + 2 → ad' j = ad j) : jce ad' cy h f = jce ad cy h f := by
  have e1 : ∀ k, k < h.2.1 → jfv ad' (h.2.2 k) (f k) = jfv ad (h.2.2 k) (f k) := by
    intro k hk
    match hs : h.2.2 k with
    | 0 => rfl
    | 1 => rfl
    | j + 2 => simp only [jfv]; rw [hh k j hk hs]
  have e2 : ∀ k, k < h.2.1 → jrf ad' (h.2.2 k) = jrf ad (h.2.2 k) := by
    intro k hk
    match hs : h.2.2 k with
    | 0 => rfl
    | 1 => rfl
    | j + 2 => simp only [jrf]; rw [hh k j hk hs]
  by_cases h1 : h.1 < 8
  · rw [jce_obj h1, jce_obj h1]
    congr 2
    exact List.map_congr_left (fun k hk => e1 k (List.mem_range.mp hk))
  · by_cases h2 : h.1 < 10
    · rw [jce_int h1 h2, jce_int h1 h2]
    · rw [jce_ref h2, jce_ref h2]
      congr 7
      funext k
      by_cases hk : k < h.2.1
      · rw [if_pos hk, if_pos hk, e2 k hk]
      · rw [if_neg hk, if_neg hk]
theorem jadp_lt {ad : Nat → Nat} {N q i : Nat} (h : i < N) : jadp ad N q i = ad i := by simp [jadp, Nat.ne_of_lt h]
theorem jW_push {ad : Nat → Nat} {cy : Nat → ClassId} {N q : Nat} {K : Nat → jSh} {x : jM} {h : jSh} {f : Nat → Int32} (hwf : jwf N K) (hh : ∀ k j, ¬ h.2.2 k = j + 2) : jW ad cy N K x ++ [(q, jce ad cy h f)] = jW (jadp ad N q) cy (N + 1) (jKp K N h) (jua x N f) := by
  unfold jW
  rw [List.range_succ, List.map_append]
  congr 1
  · apply List.map_congr_left
    intro i hi
    have hi := List.mem_range.mp hi
    have e : jKp K N h i = K i := by simp [jKp, Nat.ne_of_lt hi]
    have e2 : jua x N f i = x i := by simp [jua, Nat.ne_of_lt hi]
    rw [jadp_lt hi, e, e2]
    congr 1
    exact (jce_ext (fun k j hk hs => jadp_lt (hwf i k j hi hk hs))).symm
  · simp only [List.map_cons, List.map_nil]
    have e : jKp K N h N = h := by simp [jKp]
    have e2 : jua x N f N = f := by simp [jua]
    rw [e, e2]
    congr 2
    · simp [jadp]
    · exact (jce_ext (fun k j _ hs => absurd hs (hh k j))).symm
theorem jadp_le {ad : Nat → Nat} {N q i : Nat} (hN : N < 200) (h : i < N ∨ i = 200) : jadp ad N q i = ad i := by
  have : ¬ i = N := by omega
  simp [jadp, this]
theorem jvp {ad : Nat → Nat} {N q : Nat} {v : Value} (hN : N < 200) (h : ∀ j, v = .ref j → j < N ∨ j = 200) : jv (jadp ad N q) v = jv ad v := by
  cases v with
  | ref j => simp only [jv]; rw [jadp_le hN (h j rfl)]
  | _ => rfl
theorem jmap_p {ad : Nat → Nat} {N q : Nat} {st : List Value} (hN : N < 200) (h : jwS N st) : st.map (jv (jadp ad N q)) = st.map (jv ad) := List.map_congr_left (fun v hv => jvp hN (fun j e => Or.inl (h j (e ▸ hv))))
theorem jL_p {ad : Nat → Nat} {N q n : Nat} {ls : Array Slot} {L : List (Option Value)} (hN : N < 200) (h : jL ad ls n L) (hw : jwL N L) : jL (jadp ad N q) ls n L := ⟨h.1, h.2.1, h.2.2.1, fun i v hi => by rw [jvp hN (fun j e => hw i j (e ▸ hi))]; exact h.2.2.2 i v hi⟩
theorem jset_fr {ad : Nat → Nat} {cy : Nat → ClassId} {h : jSh} {f : Nat → Int32} {b j : Nat} (ht : h.1 < 8) :
    (Sum.inr (h.1, ((List.range h.2.1).map (fun k => jfv ad (h.2.2 k) (f k))).set b (.ref (ad j))) : va_E) = jce ad cy (h.1, h.2.1, fun i => if i = b then j + 2 else h.2.2 i) f := by
  rw [jce_obj (h := (h.1, h.2.1, fun i => if i = b then j + 2 else h.2.2 i)) ht]
  congr 2
  apply List.ext_getElem?
  intro k
  rw [List.getElem?_set]
  by_cases hb : b = k
  · subst hb
    by_cases hl : b < h.2.1
    · simp [hl, jfv]
    · simp [hl]
  · rw [if_neg hb]
    by_cases hl : k < h.2.1
    · simp [hl, Ne.symm hb]
    · simp [hl]
theorem jset_ar {ad : Nat → Nat} {cy : Nat → ClassId} {h : jSh} {f : Nat → Int32} {b j : Nat} (ht : ¬ h.1 < 10) (hb : b < h.2.1) :
    (Sum.inl (cy h.1, h.2.1, .inr (.inr (.inr (.inr (va_up (fun k => if k < h.2.1 then jrf ad (h.2.2 k) else none) b (some (ad j))))))) : va_E) = jce ad cy (h.1, h.2.1, fun i => if i = b then j + 2 else h.2.2 i) f := by
  rw [jce_ref (h := (h.1, h.2.1, fun i => if i = b then j + 2 else h.2.2 i)) ht]
  congr 7
  funext k
  by_cases hk : k = b
  · subst hk
    rw [va_up_self]
    simp [hb, jrf]
  · rw [va_up_ne _ _ hk]
    simp [hk]
theorem jW_setK {ad : Nat → Nat} {cy : Nat → ClassId} {N : Nat} {K : Nat → jSh} {x : jM} {o : Nat} {h : jSh} : (jW ad cy N K x).set o (ad o, jce ad cy h (x o)) = jW ad cy N (jKp K o h) x := by
  apply List.ext_getElem?
  intro k
  by_cases hk : k = o
  · subst hk
    by_cases hN : k < N
    · rw [jW_at hN, List.getElem?_set]
      simp [jW, hN, jKp]
    · simp [jW, hN]
  · rw [List.getElem?_set]
    simp only [jW, jKp]
    rw [if_neg (fun h => hk h.symm)]
    by_cases hN : k < N
    · simp [hN, hk]
    · simp [hN]
theorem jwf_s {N : Nat} {K : Nat → jSh} {o b j : Nat} (h : jwf N K) (hj : j < N) : jwf N (jKs K o b (j + 2)) := by
  intro i k j' hi hk hs
  unfold jKs jKp at hk hs
  by_cases hio : i = o
  · subst hio
    simp only [if_true] at hk hs
    by_cases hkb : k = b
    · simp only [hkb, if_true] at hs
      omega
    · simp only [hkb, if_false] at hs
      exact h i k j' hi hk hs
  · simp only [hio, if_false] at hk hs
    exact h i k j' hi hk hs
theorem jwf_p {N : Nat} {K : Nat → jSh} {s : jSh} (h : jwf N K) (hh : ∀ k j, ¬ s.2.2 k = j + 2) : jwf (N + 1) (jKp K N s) := by
  intro i k j' hi hk hs
  unfold jKp at hk hs
  by_cases hio : i = N
  · subst hio
    simp only [if_true] at hs
    exact absurd hs (hh k j')
  · simp only [hio, if_false] at hk hs
    exact Nat.lt_succ_of_lt (h i k j' (by omega) hk hs)
theorem jwL_up {N : Nat} {L : List (Option Value)} (h : jwL N L) : jwL (N + 1) L := fun i j hj => (h i j hj).imp Nat.lt_succ_of_lt id
theorem jwS_up {N : Nat} {st : List Value} (h : jwS N st) : jwS (N + 1) (.ref N :: st) := fun j hj => by
  rcases List.mem_cons.mp hj with e | e
  · cases e; exact Nat.lt_succ_self _
  · exact Nat.lt_succ_of_lt (h j e)
theorem jwS_i {N : Nat} {st : List Value} {v : Int32} (h : jwS N st) : jwS N (.int v :: st) := fun j hj => by
  rcases List.mem_cons.mp hj with e | e
  · cases e
  · exact h j e
theorem jwS_r {N j0 : Nat} {st : List Value} (h : jwS N st) (h0 : j0 < N) : jwS N (.ref j0 :: st) := fun j hj => by
  rcases List.mem_cons.mp hj with e | e
  · cases e; exact h0
  · exact h j e
theorem jwS_t {N : Nat} {st : List Value} {v : Value} (h : jwS N (v :: st)) : jwS N st := fun j hj => h j (List.mem_cons_of_mem _ hj)
theorem jwL_set {N a : Nat} {L : List (Option Value)} {v : Int32} (h : jwL N L) : jwL N (L.set a (some (.int v))) := fun i j hj => by
  rw [List.getElem?_set] at hj
  split at hj
  · split at hj <;> simp at hj
  · exact h i j hj
end
section
/-! CONSTRUCTORS: the machine does what jq says -/
def jNs : List Cond := jNt.map (fun q => Cond.methodLinkNest (jcn q.1) q.2.1 ⟨jcn q.2.2, "<init>", "()V"⟩ RX6)
def jNw (U : State) : Prop := (∀ q ∈ jNt, va_Nw (Cond.methodLinkNest (jcn q.1) q.2.1 ⟨jcn q.2.2, "<init>", "()V"⟩ RX6) U) ∧ va_AO RX2 U ∧ va_AO RX5 U
theorem jNw.warm {s U : State} (hW : s.WarmedH U.vm) (h : jNw s) : jNw U := ⟨fun q hq => (h.1 q hq).warmM hW, h.2.1.moved hW.alike, h.2.2.moved hW.alike⟩
theorem jNw.same {u U : State} (hv : u.vm = U.vm) (h : jNw u) : jNw U := ⟨fun q hq => (h.1 q hq).same rfl hv, h.2.1.moved (by rw [hv]; exact Vm.Alike.refl _), h.2.2.moved (by rw [hv]; exact Vm.Alike.refl _)⟩
def jPre2 (D : va_G) (cy : Nat → ClassId) (ad : Nat → Nat) (M : jM2) (sz : Nat) : State → Prop := fun U => jPre D cy ad M.1 M.2.1 M.2.2 sz U ∧ jNw U
def jPost2 (D : va_G) (cy : Nat → ClassId) (ad0 : Nat → Nat) (N0 : Nat) (A : Nat → Prop) (M : jM2) : Array Value → State → Outcome → State → Prop := fun _ st oc t => (oc = .returned none ∧ ∃ ad : Nat → Nat, (∀ i, (i < N0 ∨ i = 200) → ad i = ad0 i) ∧ jwf M.1 M.2.1 ∧ N0 ≤ M.1 ∧ va_P D vwCl (jW ad cy M.1 M.2.1 M.2.2) t.heap ∧ va_K D vwCl (jty cy) t ∧ va_D A (jW ad cy M.1 M.2.1 M.2.2)) ∧ va_F A st t
def jrc (r : jC) : Room := { frames := r.2.2.2.1, cells := r.2.2.2.2.2.1, slots := r.2.2.2.2.2.2, locals := r.2.2.2.2.1 }
def jMet2 (l : Launch) (r : jC) (T : Nat → jM2 → jM2 → Prop) : Prop := ∀ (D : va_G) (cy : Nat → ClassId) (ad : Nat → Nat) (o : Nat) (M M' : jM2) (sz : Nat), jwf M.1 M.2.1 → o < M.1 → T o M M' → Met l r.1 (.code r.1 r.2.1 r.2.2.1 none :: jt) (jrc r) (va_Pc [.ref (ad o)] (jPre2 D cy ad M sz)) (jPost2 D cy ad M.1 (va_A (jW ad cy M.1 M.2.1 M.2.2) sz) M') r.2.2.2.2.2.1 r.2.2.2.2.2.2 (va_A (jW ad cy M.1 M.2.1 M.2.2) sz)
section CS
variable {p : Program} {l : Launch} {e : Env} {R : Room} {s : State} {m : MethodId} {args : Array Value} {below : List Frame} {meth : Method} {c : Code} {Q : State → Prop}
variable {cc : ByteArray} {D : va_G} {cy : Nat → ClassId} {nL : Nat} {A : Nat → Prop} {Ts : List Cond} {own : String}
variable {pc N0 N u w : Nat} {ad0 : Nat → Nat} {L : List (Option Value)} {st : List Value} {K : Nat → jSh} {x : jM}
def jT2 (p : Program) (l : Launch) (e : Env) (R : Room) (s : State) (m : MethodId) (args : Array Value) (below : List Frame) (meth : Method) (c : Code) (Q : State → Prop) (D : va_G) (cy : Nat → ClassId) (nL : Nat) (A : Nat → Prop) (N0 : Nat) (ad0 : Nat → Nat) (pc : Nat) (L : List (Option Value)) (st : List Value) (M : jM2) (u w : Nat) : Prop :=
  ∀ ad : Nat → Nat, (∀ i, (i < N0 ∨ i = 200) → ad i = ad0 i) → N0 ≤ M.1 → jwf M.1 M.2.1 → jwL M.1 L → jwS M.1 st → jT p l e R s m args below meth c u w Q D cy ad M.1 nL M.2.1 A pc L st M.2.2
def jE2 (p : Program) (R : Room) (s : State) (m : MethodId) (args : Array Value) (c : Code) (cc : ByteArray) (D : va_G) (cy : Nat → ClassId) (nL : Nat) (A : Nat → Prop) (own : String) (Ts : List Cond) : Prop := (∀ u w : Nat, u ≤ R.cells → w ≤ R.slots → jE p R s m args c u w cc D cy nL A own Ts) ∧ jNw s
theorem jE2.T (E : jE2 p R s m args c cc D cy nL A own Ts) : ∀ w ∈ jt, w.before args s = true := fun w h => (E.1 0 0 (Nat.zero_le _) (Nat.zero_le _)).2.2.2.2.1 w ((E.1 0 0 (Nat.zero_le _) (Nat.zero_le _)).2.2.2.2.2.2.2.1 w h)
theorem jc_new {ix a : Nat} {q : vw_C} (E : jE2 p R s m args c cc D cy nL A own Ts) (hq : vwCl[a]? = some q) (hqn : q.2.2 = jfc a) (w1 : Cond.classLink own ix q.1 ∈ jt) (w2 : Cond.instantiable q.1 (jfc a) ∈ jt) (w3 : Cond.initialized q.1 ∈ jt) (h200 : N < 200) (hu : u + 1 ≤ R.cells) (hw : w + jfc a ≤ R.slots) (hd : decode cc pc = .ok (.new ix, 3))
    (k : jT2 p l e R s m args below meth c Q D cy nL A N0 ad0 (pc + 3) L (.ref N :: st) (N + 1, jKp K N (a, jfc a, jdf a), jua x N (fun _ => 0)) (u + 1) (w + jfc a)) : jT2 p l e R s m args below meth c Q D cy nL A N0 ad0 pc L st (N, K, x) u w := by
  intro ad hag hN hwf hL hS H locs ls h1 h2 h3 h4
  have E0 := E.1 0 0 (Nat.zero_le _) (Nat.zero_le _)
  obtain ⟨hcw, ty0, hty, hnm⟩ := jcl_ok a q hq
  have ha : a < 8 := vwCl_lt hq
  have hno : ∀ k j, ¬ jdf a k = j + 2 := by
    intro k j h
    by_cases hk : k < q.2.2
    · have := (jdf_ok a ha q hq k hk).2
      omega
    · unfold jdf at h
      rw [hqn] at hk
      unfold jfc at hk
      rw [List.getD_eq_getElem?_getD, List.getElem?_eq_none (by omega)] at h
      simp at h
  refine va_new (D := D) (ci := a) (fs := (List.range (jfc a)).map (fun k => jfv ad (jdf a k) 0)) (C := q.1) (T := q.2.1) (N := q.2.2) E0.1 E0.2.1 E0.2.2.2.2.1 (fun w h => E0.2.2.2.2.2.2.2.1 w (hcw w h)) ty0 hty E0.2.2.2.1 (E.T _ w1) (by rw [hqn]; exact E.T _ w2) (E.T _ w3) E0.2.2.2.2.2.1 h1 h2 h3 E0.2.2.2.2.2.2.1 hq ?_ hu (by rw [hqn]; exact hw) hd (fun qn H1 hP hD hS' => ?_)
  · intro j hj
    have h5 := (jdf_ok a ha q hq j hj).1
    rw [hty j hj] at h5
    simp only [Option.map_some, Option.some.injEq] at h5
    rw [h5, vp_V]
    have hj2 : j < jfc a := by omega
    simp only [List.getD_eq_getElem?_getD, List.getElem?_map, List.getElem?_range hj2, Option.map_some, Option.getD_some]
    have := (jdf_ok a ha q hq j hj).2
    rcases (show jdf a j = 0 ∨ jdf a j = 1 by omega) with e | e <;> simp [e, jfv]
  · have heq := jW_push (ad := ad) (cy := cy) (q := qn) (x := x) (h := (a, jfc a, jdf a)) (f := fun _ => 0) hwf hno
    rw [jce_obj (h := (a, jfc a, jdf a)) ha] at heq
    rw [heq] at hP hD
    rw [hqn]
    have := k (jadp ad N qn) (fun i hi => by rw [jadp_le h200 (hi.imp (fun h => Nat.lt_of_lt_of_le h hN) id)]; exact hag i hi) (Nat.le_succ_of_le hN) (jwf_p hwf hno) (jwL_up hL) (jwS_up hS) H1 locs ls hP hD hS' (jL_p h200 h4 hL)
    rw [List.map_cons, jmap_p h200 hS] at this
    simpa [jv, jadp] using this
theorem jc_newa {at_ : ArrayType} {a : Nat} {n : Int32} (E : jE2 p R s m args c cc D cy nL A own Ts) (ha : (a = 8 ∧ at_ = .int) ∨ (a = 9 ∧ at_ = .boolean)) (hn : 0 ≤ n) (hn2 : n.toNatClampNeg ≤ 1000) (h200 : N < 200) (hu : u + 1 ≤ R.cells) (hw : w + n.toNatClampNeg ≤ R.slots) (hd : decode cc pc = .ok (.newarray at_, 2))
    (k : jT2 p l e R s m args below meth c Q D cy nL A N0 ad0 (pc + 2) L (.ref N :: st) (N + 1, jKp K N (a, n.toNatClampNeg, fun _ => 0), jua x N (fun _ => 0)) (u + 1) (w + n.toNatClampNeg)) : jT2 p l e R s m args below meth c Q D cy nL A N0 ad0 pc L (.int n :: st) (N, K, x) u w := by
  intro ad hag hN hwf hL hS H locs ls h1 h2 h3 h4
  have hS := jwS_t hS
  have E0 := E.1 0 0 (Nat.zero_le _) (Nat.zero_le _)
  have hno : ∀ k j, ¬ ((a, n.toNatClampNeg, fun _ => 0) : jSh).2.2 k = j + 2 := fun k j h => by simp at h
  have fin : ∀ (qn : Nat) (cA : ClassId) (H1 : Heap), cA = cy a → va_P D vwCl (jW ad cy N K x ++ [(qn, .inl (cA, n.toNatClampNeg, .inl (fun _ => 0)))]) H1 → va_D A (jW ad cy N K x ++ [(qn, .inl (cA, n.toNatClampNeg, .inl (fun _ => 0)))]) → va_S A s.heap H1 locs → W p l e R s m args below meth c H1 locs (u + 1) (w + n.toNatClampNeg) Q (F0 m (pc + 2) ls (.ref qn :: st.map (jv ad))) := by
    intro qn cA H1 hcA hP hD hS'
    have heq := jW_push (ad := ad) (cy := cy) (q := qn) (x := x) (h := (a, n.toNatClampNeg, fun _ => 0)) (f := fun _ => 0) hwf hno
    rw [jce_int (h := (a, n.toNatClampNeg, fun _ => 0)) (by show ¬ a < 8; omega) (by show a < 10; omega)] at heq
    rw [hcA, heq] at hP hD
    have := k (jadp ad N qn) (fun i hi => by rw [jadp_le h200 (hi.imp (fun h => Nat.lt_of_lt_of_le h hN) id)]; exact hag i hi) (Nat.le_succ_of_le hN) (jwf_p hwf hno) (jwL_up hL) (jwS_up hS) H1 locs ls hP hD hS' (jL_p h200 h4 hL)
    rw [List.map_cons, jmap_p h200 hS] at this
    simpa [jv, jadp] using this
  have hneg : ¬ n < 0 := by
    intro h
    exact absurd hn (by simpa using h)
  rcases ha with ⟨rfl, rfl⟩ | ⟨rfl, rfl⟩
  · refine va_newa (atype := .int) (ty := .int) (a0 := (n.toNatClampNeg, .inl (fun _ => 0))) E0.1 E0.2.1 (E.T _ jarc.1) rfl E0.2.2.2.2.2.1 h1 h2 h3 E0.2.2.2.2.2.2.1 (fun cA => rfl) hneg rfl (by simp [componentBytes]; omega) hu hw hd (fun qn cA H1 hK' hP hD hS' => fin qn cA H1 ?_ hP hD hS')
    have e1 : s.vm.findClass ("[" ++ FieldType.int.toString) = some cA := (hK'.2 4 (cA, .int) rfl).2
    have e2 : s.vm.findClass ("[" ++ FieldType.int.toString) = some (cy 8) := (E0.2.2.2.2.2.1.2 0 (cy 8, .int) rfl).2
    exact Option.some.inj (e1.symm.trans e2)
  · refine va_newa (atype := .boolean) (ty := .boolean) (a0 := (n.toNatClampNeg, .inl (fun _ => 0))) E0.1 E0.2.1 (E.T _ jarc.2) rfl E0.2.2.2.2.2.1 h1 h2 h3 E0.2.2.2.2.2.2.1 (fun cA => rfl) hneg rfl (by simp [componentBytes]; omega) hu hw hd (fun qn cA H1 hK' hP hD hS' => fin qn cA H1 ?_ hP hD hS')
    have e1 : s.vm.findClass ("[" ++ FieldType.boolean.toString) = some cA := (hK'.2 4 (cA, .boolean) rfl).2
    have e2 : s.vm.findClass ("[" ++ FieldType.boolean.toString) = some (cy 9) := (E0.2.2.2.2.2.1.2 1 (cy 9, .boolean) rfl).2
    exact Option.some.inj (e1.symm.trans e2)
theorem jc_newq {ix a : Nat} {n : Int32} {C : String} (E : jE2 p R s m args c cc D cy nL A own Ts) (ha : (a = 10 ∧ C = RX2) ∨ (a = 11 ∧ C = RX5)) (w1 : Cond.classLink own ix C ∈ jt) (hn : 0 ≤ n) (hn2 : n.toNatClampNeg ≤ 1000) (h200 : N < 200) (hu : u + 1 ≤ R.cells) (hw : w + n.toNatClampNeg ≤ R.slots) (hd : decode cc pc = .ok (.anewarray ix, 3))
    (k : jT2 p l e R s m args below meth c Q D cy nL A N0 ad0 (pc + 3) L (.ref N :: st) (N + 1, jKp K N (a, n.toNatClampNeg, fun _ => 1), jua x N (fun _ => 0)) (u + 1) (w + n.toNatClampNeg)) : jT2 p l e R s m args below meth c Q D cy nL A N0 ad0 pc L (.int n :: st) (N, K, x) u w := by
  intro ad hag hN hwf hL hS H locs ls h1 h2 h3 h4
  have hS := jwS_t hS
  have E0 := E.1 0 0 (Nat.zero_le _) (Nat.zero_le _)
  have hno : ∀ k j, ¬ ((a, n.toNatClampNeg, fun _ => 1) : jSh).2.2 k = j + 2 := fun k j h => by simp at h
  have fin : ∀ (qn : Nat) (cA : ClassId) (H1 : Heap), cA = cy a → va_P D vwCl (jW ad cy N K x ++ [(qn, .inl (cA, n.toNatClampNeg, .inr (.inr (.inr (.inr (fun _ => none))))))]) H1 → va_D A (jW ad cy N K x ++ [(qn, .inl (cA, n.toNatClampNeg, .inr (.inr (.inr (.inr (fun _ => none))))))]) → va_S A s.heap H1 locs → W p l e R s m args below meth c H1 locs (u + 1) (w + n.toNatClampNeg) Q (F0 m (pc + 3) ls (.ref qn :: st.map (jv ad))) := by
    intro qn cA H1 hcA hP hD hS'
    have heq := jW_push (ad := ad) (cy := cy) (q := qn) (x := x) (h := (a, n.toNatClampNeg, fun _ => 1)) (f := fun _ => 0) hwf hno
    rw [jce_ref (h := (a, n.toNatClampNeg, fun _ => 1)) (by show ¬ a < 10; omega)] at heq
    have e0 : (fun k : Nat => if k < ((a, n.toNatClampNeg, fun _ => 1) : jSh).2.1 then jrf ad (((a, n.toNatClampNeg, fun _ => 1) : jSh).2.2 k) else none) = (fun _ => none) := by
      funext k
      simp [jrf]
    rw [e0] at heq
    rw [hcA, heq] at hP hD
    have := k (jadp ad N qn) (fun i hi => by rw [jadp_le h200 (hi.imp (fun h => Nat.lt_of_lt_of_le h hN) id)]; exact hag i hi) (Nat.le_succ_of_le hN) (jwf_p hwf hno) (jwL_up hL) (jwS_up hS) H1 locs ls hP hD hS' (jL_p h200 h4 hL)
    rw [List.map_cons, jmap_p h200 hS] at this
    simpa [jv, jadp] using this
  have hneg : ¬ n < 0 := by
    intro h
    exact absurd hn (by simpa using h)
  rcases ha with ⟨rfl, rfl⟩ | ⟨rfl, rfl⟩
  · refine va_newq E0.1 E0.2.1 E0.2.2.2.1 (E.T _ w1) E.2.2.1 E0.2.2.2.2.2.1 h1 h2 h3 E0.2.2.2.2.2.2.1 hneg rfl (by omega) hu hw hd (fun qn cA H1 hK' hP hD hS' => fin qn cA H1 ?_ hP hD hS')
    obtain ⟨_, _, _, _, _, e1⟩ := (hK'.2 4 (cA, .object RX2) rfl).2
    obtain ⟨_, _, _, _, _, e2⟩ := (E0.2.2.2.2.2.1.2 2 (cy 10, .object RX2) rfl).2
    exact Option.some.inj (e1.symm.trans e2)
  · refine va_newq E0.1 E0.2.1 E0.2.2.2.1 (E.T _ w1) E.2.2.2 E0.2.2.2.2.2.1 h1 h2 h3 E0.2.2.2.2.2.2.1 hneg rfl (by omega) hu hw hd (fun qn cA H1 hK' hP hD hS' => fin qn cA H1 ?_ hP hD hS')
    obtain ⟨_, _, _, _, _, e1⟩ := (hK'.2 4 (cA, .object RX5) rfl).2
    obtain ⟨_, _, _, _, _, e2⟩ := (E0.2.2.2.2.2.1.2 3 (cy 11, .object RX5) rfl).2
    exact Option.some.inj (e1.symm.trans e2)
theorem jc_putr {n o a b j : Nat} {q : vw_C} {ty : FieldType} (E : jE2 p R s m args c cc D cy nL A own Ts) (hu : u ≤ R.cells) (hw0 : w ≤ R.slots) (hin : meth.name = "<init>") (hq : vwCl[a]? = some q) (hb : b < q.2.2) (hw : Cond.fieldLink own n (q.2.1 b).1 (q.2.1 b).2.1 (q.2.1 b).2.2.1 ∈ jt) (hfin : (q.2.1 b).2.2.2 = true) (hdecl : (q.2.1 b).1 = own) (hpd : parseFieldDescriptor (q.2.1 b).2.2.1 = some ty) (hn : ∀ z, narrow ty (.ref z) = .ref z) (hfit : ∀ z, fits ty (.ref z) = true) (hj : job N K o a b = true) (hd : decode cc pc = .ok (.putfield n, 3))
    (k : jT2 p l e R s m args below meth c Q D cy nL A N0 ad0 (pc + 3) L st (N, jKs K o b (j + 2), x) u w) : jT2 p l e R s m args below meth c Q D cy nL A N0 ad0 pc L (.ref j :: .ref o :: st) (N, K, x) u w := by
  intro ad hag hN hwf hL hS H locs ls h1 h2 h3 h4
  have E0 := E.1 u w hu hw0
  obtain ⟨hcw, ty0, hty, hnm⟩ := jcl_ok a q hq
  obtain ⟨ho, ht, hl⟩ := job_spec hj
  have he := jW_at (ad := ad) (cy := cy) (K := K) (x := x) ho
  have h8 : (K o).1 < 8 := by rw [ht]; exact vwCl_lt hq
  rw [jce_obj h8] at he
  refine va_putF (D := D) (ci := (K o).1) (v := .ref (ad j)) (ty := ty) (C := q.1) (T := q.2.1) (N := q.2.2) E0.1 E0.2.1 E0.2.2.2.2.1 (fun w h => E0.2.2.2.2.2.2.2.1 w (hcw w h)) ty0 hty hnm E0.2.2.2.1 E0.2.2.2.2.2.1 h1 h2 h3 o he (by rw [ht]; exact hq) b hb (E.T _ hw) (fun _ h9 => h9) hfin hin hdecl hpd (hn _) (hfit _) (by simp [hl]) hd (fun H1 locs1 hP hD hS' => ?_)
  rw [jset_fr (cy := cy) h8, jW_setK] at hP hD
  exact k ad hag hN (jwf_s hwf (hS j List.mem_cons_self)) hL (jwS_t (jwS_t hS)) H1 locs1 ls hP hD hS' h4
theorem jc_aast {o a j : Nat} {i : Int32} (E : jE2 p R s m args c cc D cy nL A own Ts) (hu : u ≤ R.cells) (hw0 : w ≤ R.slots) (hj : jar N K o a = true) (hi : 0 ≤ i) (hi2 : i.toNatClampNeg < (K o).2.1) (ha : (a = 10 ∧ (K j).1 = 2) ∨ (a = 11 ∧ (K j).1 = 5)) (hd : decode cc pc = .ok (.aastore, 1))
    (k : jT2 p l e R s m args below meth c Q D cy nL A N0 ad0 (pc + 1) L st (N, jKs K o i.toNatClampNeg (j + 2), x) u w) : jT2 p l e R s m args below meth c Q D cy nL A N0 ad0 pc L (.ref j :: .int i :: .ref o :: st) (N, K, x) u w := by
  intro ad hag hN hwf hL hS H locs ls h1 h2 h3 h4
  have E0 := E.1 u w hu hw0
  obtain ⟨ho, ht⟩ := jar_spec hj
  have hjN : j < N := hS j List.mem_cons_self
  have he := jW_at (ad := ad) (cy := cy) (K := K) (x := x) ho
  rw [jce_ref (by omega)] at he
  have hv := jW_at (ad := ad) (cy := cy) (K := K) (x := x) hjN
  rw [jce_obj (by omega)] at hv
  have hin : vp_in i (K o).2.1 := fun h => h.elim (fun h => absurd hi (by simpa using h)) (fun h => absurd hi2 (Nat.not_lt.mpr h))
  have fin : ∀ (H1 : Heap) (locs1 : List Loc), va_P D vwCl ((jW ad cy N K x).set o (ad o, .inl (cy (K o).1, (K o).2.1, .inr (.inr (.inr (.inr (va_up (fun k => if k < (K o).2.1 then jrf ad ((K o).2.2 k) else none) i.toNatClampNeg (some (ad j))))))))) H1 → va_D A ((jW ad cy N K x).set o (ad o, .inl (cy (K o).1, (K o).2.1, .inr (.inr (.inr (.inr (va_up (fun k => if k < (K o).2.1 then jrf ad ((K o).2.2 k) else none) i.toNatClampNeg (some (ad j))))))))) → va_S A s.heap H1 locs1 → W p l e R s m args below meth c H1 locs1 u w Q (F0 m (pc + 1) ls (st.map (jv ad))) := by
    intro H1 locs1 hP hD hS'
    rw [jset_ar (f := x o) (by omega) hi2, jW_setK] at hP hD
    exact k ad hag hN (jwf_s hwf hjN) hL (jwS_t (jwS_t (jwS_t hS))) H1 locs1 ls hP hD hS' h4
  rcases ha with ⟨rfl, hk⟩ | ⟨rfl, hk⟩
  · rw [hk] at hv
    exact va_astq (r := (RX2, TX2, 3)) E0.1 E0.2.1 E0.2.2.2.2.2.1 h1 h2 h3 o 2 j 2 he (by rw [ht]; rfl) hv rfl hin hd fin
  · rw [hk] at hv
    exact va_astq (r := (RX5, TX5, 5)) E0.1 E0.2.1 E0.2.2.2.2.2.1 h1 h2 h3 o 3 j 5 he (by rw [ht]; rfl) hv rfl hin hd fin
theorem jc_obj {ix o : Nat} (E : jE2 p R s m args c cc D cy nL A own Ts) (hu : u ≤ R.cells) (hw0 : w ≤ R.slots) (hR : 1 ≤ R.frames ∧ 20 ≤ R.locals) (w1 : Cond.methodLink own ix objectInit ∈ jt) (hc : jcs st = true) (hd : decode cc pc = .ok (.invokespecial ix, 3))
    (k : jT2 p l e R s m args below meth c Q D cy nL A N0 ad0 (pc + 3) L st (N, K, x) u w) : jT2 p l e R s m args below meth c Q D cy nL A N0 ad0 pc L (.ref o :: st) (N, K, x) u w := by
  intro ad hag hN hwf hL hS H locs ls h1 h2 h3 h4
  have E0 := E.1 u w hu hw0
  refine W.objInit (g := F0 m pc ls (.ref (ad o) :: st.map (jv ad))) E0.1 E0.2.1 E0.2.2.2.1 (E.T _ w1) (E.T _ jobi.1) (E.T _ jobi.2) rfl (by rw [E0.2.2.1]; exact h4.1) rfl hd hR.1 (by have := jcs_spec (ad := ad) hc; show 2 * 0 + _ + 12 ≤ _; omega) ?_
  exact k ad hag hN hwf hL (jwS_t hS) H locs ls h1 h2 h3 h4
theorem jc_astore {n : Fin 4} {a j : Nat} (E : jE2 p R s m args c cc D cy nL A own Ts) (hu : u ≤ R.cells) (hw0 : w ≤ R.slots) (hd : decode cc pc = .ok (.astore_n n, 1)) (ha : (n : Nat) = a) (hs : jsv L a = true) (k : jT2 p l e R s m args below meth c Q D cy nL A N0 ad0 (pc + 1) (L.set a (some (.ref j))) st (N, K, x) u w) : jT2 p l e R s m args below meth c Q D cy nL A N0 ad0 pc L (.ref j :: st) (N, K, x) u w := by
  intro ad hag hN hwf hL hS H locs ls h1 h2 h3 h4
  have E0 := E.1 u w hu hw0
  refine lv_astore_n E0.1 E0.2.1 hd ha h4.has (Nat.lt_of_lt_of_le (jsv_lt hs) h4.2.2.1) rfl (fun ls' h' => ?_)
  refine k ad hag hN hwf (fun i j' hj => ?_) (jwS_t hS) H locs ls' h1 h2 h3 (jL.st1 (v := .ref j) h4 hs h')
  rw [List.getElem?_set] at hj
  split at hj
  · split at hj
    · cases hj
      exact Or.inl (hS j List.mem_cons_self)
    · cases hj
  · exact hL i j' hj
theorem jblind2 {ad : Nat → Nat} {M : jM2} {as : List Value} {sz : Nat} : FrameBlind (va_Pc as (jPre2 D cy ad M sz)) := fun a U g mk q => by
  obtain ⟨q0, ⟨q1, qP, qK, qD⟩, qN⟩ := q
  exact ⟨q0, ⟨q1, qP, va_K.moved (u := U) (U := U.calling g mk a) (Vm.Alike.refl U.vm) qK, qD⟩, qN.same rfl⟩
theorem jc_call {ix o : Nat} {r : jC} {M' : jM2} {F : Nat → jM2 → jM2 → Prop} (E : jE2 p R s m args c cc D cy nL A own Ts) (hF : jMet2 l r F) (w5 : Cond.code r.1 r.2.1 r.2.2.1 none ∈ jt) (w4 : Cond.initialized r.1.cls ∈ jt) (w2 : Cond.instanceMethod r.1 ∈ jt) (hnm : r.1.name = "<init>")
    (hd0 : r.1.cls ≠ "java/lang/invoke/MethodHandle" ∧ r.1.cls ≠ "java/lang/invoke/VarHandle" ∧ (parseMethodDescriptor r.1.desc).map (fun d => d.parameters.length) = some 0) (hR : r.2.2.2.1 + 1 ≤ R.frames ∧ 8 + (r.2.2.1 + 11) + r.2.2.2.2.1 ≤ R.locals)
    (w1 : Cond.methodLink own ix r.1 ∈ jt ∨ ∃ host, va_Nw (.methodLinkNest own ix r.1 host) s) (hc : jcs st = true) (hu : u + r.2.2.2.2.2.1 ≤ R.cells) (hw : w + r.2.2.2.2.2.2 ≤ R.slots) (hd : decode cc pc = .ok (.invokespecial ix, 3)) (hx : F o (N, K, x) M')
    (k : jT2 p l e R s m args below meth c Q D cy nL A N0 ad0 (pc + 3) L st M' (u + r.2.2.2.2.2.1) (w + r.2.2.2.2.2.2)) : jT2 p l e R s m args below meth c Q D cy nL A N0 ad0 pc L (.ref o :: st) (N, K, x) u w := by
  intro ad hag hN hwf hL hS H locs ls h1 h2 h3 h4
  have E0 := E.1 0 0 (Nat.zero_le _) (Nat.zero_le _)
  have hT := E0.2.2.2.2.2.2.2.1
  have hK := E0.2.2.2.2.2.1
  have hoN : o < N := hS o List.mem_cons_self
  have hM := hF D cy ad o (N, K, x) M' H.size hwf hoN hx
  have pre : PreS s H (va_Pc [.ref (ad o)] (jPre2 D cy ad (N, K, x) H.size)) (.ref (ad o) :: []) := ⟨jblind2, fun U hU hW => ⟨rfl, ⟨by rw [hU], by rw [hU]; exact h1, va_K.moved hW.alike hK, h2.1, fun _ _ _ => trivial⟩, E.2.warm hW⟩⟩
  have run : va_Run p l e R s m args below meth c H locs u w r.2.2.2.2.2.1 r.2.2.2.2.2.2 (F0 m pc ls ((.ref o :: st).map (jv ad))) (st.map (jv ad)) (jPost2 D cy ad N (va_A (jW ad cy N K x) H.size) M' (Value.ref (ad o) :: []).toArray) (va_A (jW ad cy N K x) H.size) := by
    rcases w1 with w1 | ⟨host, w1⟩
    · exact va_runI (As := []) (b := ad o) ⟨E0.1, E0.2.1, E0.2.2.1, E0.2.2.2.1, E0.2.2.2.2.1⟩ hM (cwI 0 E0.2.2.2.2.1 (jgoodIn hT w5) rfl rfl rfl (E.T _ w4) (E.T _ w1) (E.T _ w2) hnm hd0 hR) pre rfl rfl h4.1 rfl (lv_room (jcs_spec hc)) hd ⟨hu, hw⟩
    · exact va_runIN (As := []) (b := ad o) ⟨E0.1, E0.2.1, E0.2.2.1, E0.2.2.2.1, E0.2.2.2.2.1⟩ hM ⟨va_cnB 0 E0.2.2.2.2.1 (jgoodIn hT w5) rfl rfl rfl w1 (E.T _ w4) hd0 hR, hnm, E.T _ w2⟩ pre rfl rfl h4.1 rfl (lv_room (jcs_spec hc)) hd ⟨hu, hw⟩
  have hF' : ∀ q, va_A (jW ad cy N K x) H.size q → A q := js_hF E0.2.2.2.2.2.2.1 h2 h3
  intro T hT' X
  obtain ⟨v, st₀, t, T', L', g0, X', hL', e1, e2, ⟨⟨hv, ad', ha, hwf', hN', hP, hK', hD⟩, hz, hk⟩, stp⟩ := run T hT' X
  cases hv
  rw [g0] at hz hk
  have kk := k ad' (fun i hi => (ha i (hi.imp (fun h => Nat.lt_of_lt_of_le h hN) id)).trans (hag i hi)) (Nat.le_trans hN hN') hwf' (fun i j h => (hL i j h).imp (fun h => Nat.lt_of_lt_of_le h hN') id) (fun j h => Nat.lt_of_lt_of_le (jwS_t hS j h) hN') T'.heap (locs ++ L') ls (by rw [e1]; exact hP) ⟨hD.1, fun k q hq => hF' _ (hD.2 k q hq)⟩
    ⟨Nat.le_trans h3.1 (by rw [e1]; exact hz), fun q g1 g2 => by rw [e1, hk q (Nat.lt_of_lt_of_le g1 h3.1) (fun z => g2 (hF' q z))]; exact h3.2.1 q g1 g2, fun q hq => by
      rcases List.mem_append.mp hq with h | h
      · exact h3.2.2 q h
      · exact hF' _ (hL' q h)⟩ ⟨h4.1, h4.2.1, h4.2.2.1, fun i v hi => by
        have : jv ad' v = jv ad v := by
          cases v with
          | ref j => simp only [jv]; rw [ha j (hL i j hi)]
          | _ => rfl
        rw [this]
        exact h4.2.2.2 i v hi⟩
  have hm : st.map (jv ad') = st.map (jv ad) := List.map_congr_left (fun v hv => by
    cases v with
    | ref j => simp only [jv]; rw [ha j (Or.inl (jwS_t hS j hv))]
    | _ => rfl)
  rw [hm] at kk
  obtain ⟨t2, a1, b1⟩ := kk T' rfl X'
  exact ⟨t2, stp t2 a1, b1⟩
end CS
end
section
/-! CONSTRUCTORS: the check, a step, a run, all of them -/
theorem jQl_in {own ix a : Nat} (h : jQl.any (jlm own ix a) = true) : Cond.classLink (jcn own) ix (jcn a) ∈ jt := by
  obtain ⟨q, hq, h⟩ := List.any_eq_true.mp h
  have h0 := jat_in (List.all_eq_true.mp jQl_ok q hq)
  simp only [jlm, Bool.and_eq_true, beq_iff_eq] at h
  rw [h.1, h.2.1, h.2.2] at h0
  exact h0
theorem jIl_in {own ix a : Nat} {r : jC} (h : jIl.any (jlm own ix a) = true) (hr : jCt[a]? = some r) : Cond.methodLink (jcn own) ix r.1 ∈ jt := by
  obtain ⟨q, hq, h⟩ := List.any_eq_true.mp h
  have h0 := List.all_eq_true.mp jIl_ok q hq
  simp only [jlm, Bool.and_eq_true, beq_iff_eq] at h
  obtain ⟨e1, e2, e3⟩ := h
  rw [e3, e1, e2, hr] at h0
  exact jat_in h0
def jlz (own ix : Nat) (q : Nat × Nat × Nat) : Bool := q.1 == own && q.2.1 == ix
theorem jZl_in {own ix : Nat} (h : jZl.any (jlz own ix) = true) : Cond.methodLink (jcn own) ix objectInit ∈ jt := by
  obtain ⟨q, hq, h⟩ := List.any_eq_true.mp h
  have h0 := jat_in (List.all_eq_true.mp jZl_ok q hq)
  simp only [jlz, Bool.and_eq_true, beq_iff_eq] at h
  rw [h.1, h.2] at h0
  exact h0
theorem jCt_words {a : Nat} {r : jC} (h : jCt[a]? = some r) : a < 8 ∧ Cond.code r.1 r.2.1 r.2.2.1 none ∈ jt ∧ Cond.initialized r.1.cls ∈ jt ∧ (r.1.cls ≠ "java/lang/invoke/MethodHandle" ∧ r.1.cls ≠ "java/lang/invoke/VarHandle" ∧ (parseMethodDescriptor r.1.desc).map (fun d => d.parameters.length) = some 0) ∧ plainName r.1.cls = true ∧ Cond.instanceMethod r.1 ∈ jt ∧ r.1.name = "<init>" ∧ r.1.cls = jcn a ∧ Cond.instantiable (jcn a) (jfc a) ∈ jt ∧ ∃ q, vwCl[a]? = some q ∧ q.1 = jcn a ∧ q.2.2 = jfc a := by
  have ha : a < 8 := by
    have := (List.getElem?_eq_some_iff.mp h).1
    have hn : jCt.length = 8 := by decide +kernel
    omega
  obtain ⟨r', z, hr, hz⟩ := jCt_ok a ha
  rw [h] at hr
  cases hr
  simp only [jCok, Bool.and_eq_true, decide_eq_true_eq] at hz
  obtain ⟨h1, h2, h3, h4, h5, h6, h7, h8, h9, h10⟩ := hz
  refine ⟨ha, jat_in h1, jat_in h2, ⟨h3.1, h3.2, h4⟩, h5, jat_in h6, h7, h8, jat_in h9, ?_⟩
  split at h10
  · next q hq =>
    simp only [Bool.and_eq_true, decide_eq_true_eq] at h10
    exact ⟨q, hq, h10.1, h10.2⟩
  · cases h10
def jokc (oi Rf Rl : Nat) (code : List jI) (k : Nat) (q : jI) : Bool :=
  match q with
  | (pc, i, len, a, b, cv, ts) => match i with
    | .putfield n => if cv = 2 then len == 3 && (jnx code (k + 1) (pc + 3) && (jFl.any (jlf oi n a b) && (match vwCl[a]? with
      | some r => (r.2.1 b).2.2.2 && (decide ((r.2.1 b).1 = jcn oi) && (match parseFieldDescriptor (r.2.1 b).2.2.1 with
        | some (.array _) => true
        | some (.object _) => true
        | _ => false))
      | none => false))) else jok2 oi none Rf Rl code k (pc, .putfield n, len, a, b, cv, ts)
    | .new n => len == 3 && (jnx code (k + 1) (pc + 3) && jQl.any (jlm oi n a) && decide (a < 8))
    | .newarray t => len == 2 && (jnx code (k + 1) (pc + 2) && decide ((a = 8 ∧ t = .int) ∨ (a = 9 ∧ t = .boolean)))
    | .anewarray n => len == 3 && (jnx code (k + 1) (pc + 3) && ((a == 10 && jQl.any (jlm oi n 2)) || (a == 11 && jQl.any (jlm oi n 5))))
    | .aastore => len == 1 && jnx code (k + 1) (pc + 1)
    | .invokespecial n => len == 3 && (jnx code (k + 1) (pc + 3) && (if cv = 0 then jZl.any (jlz oi n) && (decide (1 ≤ Rf) && decide (20 ≤ Rl)) else match jCt[a]? with
      | some r => decide (r.2.2.2.1 + 1 ≤ Rf) && (decide (8 + (r.2.2.1 + 11) + r.2.2.2.2.1 ≤ Rl) && ((decide (cv = 1) && jIl.any (jlm oi n a)) || jNt.contains (oi, n, a)))
      | none => false))
    | .iconst n => jok2 oi none Rf Rl code k (pc, .iconst n, len, a, b, cv, ts)
    | .bipush n => jok2 oi none Rf Rl code k (pc, .bipush n, len, a, b, cv, ts)
    | .sipush n => jok2 oi none Rf Rl code k (pc, .sipush n, len, a, b, cv, ts)
    | .aload_n n => jok2 oi none Rf Rl code k (pc, .aload_n n, len, a, b, cv, ts)
    | .iload_n n => jok2 oi none Rf Rl code k (pc, .iload_n n, len, a, b, cv, ts)
    | .istore_n n => jok2 oi none Rf Rl code k (pc, .istore_n n, len, a, b, cv, ts)
    | .iinc n w => jok2 oi none Rf Rl code k (pc, .iinc n w, len, a, b, cv, ts)
    | .dup => jok2 oi none Rf Rl code k (pc, .dup, len, a, b, cv, ts)
    | .if_icmp cd n => jok2 oi none Rf Rl code k (pc, .if_icmp cd n, len, a, b, cv, ts)
    | .goto n => jok2 oi none Rf Rl code k (pc, .goto n, len, a, b, cv, ts)
    | .getfield n => jok2 oi none Rf Rl code k (pc, .getfield n, len, a, b, cv, ts)
    | .return_ => jok2 oi none Rf Rl code k (pc, .return_, len, a, b, cv, ts)
    | _ => false
section CQ
variable {p : Program} {l : Launch} {e : Env} {R : Room} {s : State} {m : MethodId} {args : Array Value} {below : List Frame} {meth : Method} {c : Code} {Q : State → Prop}
variable {cc : ByteArray} {D : va_G} {cy : Nat → ClassId} {nL : Nat} {A : Nat → Prop} {Ts : List Cond}
variable {N0 N u w : Nat} {ad0 : Nat → Nat} {L : List (Option Value)} {st : List Value} {K : Nat → jSh} {x : jM}
set_option maxHeartbeats 4000000 in
theorem jq1_ok {F : Nat → Nat → jM2 → Option jM2} {code : List jI} {oi k : Nat} {q : jI} {S : jS2} (E : jE2 p R s m args c cc D cy nL A (jcn oi) Ts) (hF : ∀ (a : Nat) (r : jC), jCt[a]? = some r → jMet2 l r (fun o M M' => F a o M = some M')) (hin : meth.name = "<init>") (hd : decode cc q.1 = .ok (q.2.1, q.2.2.1)) (hok : jokc oi R.frames R.locals code k q = true) (hu : u ≤ R.cells) (hw : w ≤ R.slots)
    (hx : jq1 F R.cells R.slots q (k, L, st, (N, K, x), u, w) = some S) (hG : ∀ pc' : Nat, jnx code S.1 pc' = true → S.2.2.2.2.1 ≤ R.cells → S.2.2.2.2.2 ≤ R.slots → jT2 p l e R s m args below meth c Q D cy nL A N0 ad0 pc' S.2.1 S.2.2.1 S.2.2.2.1 S.2.2.2.2.1 S.2.2.2.2.2) : jT2 p l e R s m args below meth c Q D cy nL A N0 ad0 q.1 L st (N, K, x) u w := by
  obtain ⟨pc, i, len, a, b, cv, ts⟩ := q
  have hd : decode cc pc = .ok (i, len) := hd
  show jT2 p l e R s m args below meth c Q D cy nL A N0 ad0 pc L st (N, K, x) u w
  cases i with
  | iconst n =>
    simp only [jokc, jok2, Bool.and_eq_true, beq_iff_eq, decide_eq_true_eq] at hok
    obtain ⟨rfl, h1, h2⟩ := hok
    cases hx
    intro ad hag hN hwf hL hS
    exact js_iconst (E.1 u w hu hw) hd h2 (hG _ h1 hu hw ad hag hN hwf hL (jwS_i hS))
  | bipush n =>
    simp only [jokc, jok2, Bool.and_eq_true, beq_iff_eq, decide_eq_true_eq] at hok
    obtain ⟨rfl, h1, h2⟩ := hok
    cases hx
    intro ad hag hN hwf hL hS
    exact js_bipush (E.1 u w hu hw) hd h2 (hG _ h1 hu hw ad hag hN hwf hL (jwS_i hS))
  | sipush n =>
    simp only [jokc, jok2, Bool.and_eq_true, beq_iff_eq, decide_eq_true_eq] at hok
    obtain ⟨rfl, h1, h2⟩ := hok
    cases hx
    intro ad hag hN hwf hL hS
    exact js_sipush (E.1 u w hu hw) hd h2 (hG _ h1 hu hw ad hag hN hwf hL (jwS_i hS))
  | aload_n n =>
    simp only [jokc, jok2, Bool.and_eq_true, beq_iff_eq, decide_eq_true_eq] at hok
    obtain ⟨rfl, h1, h2⟩ := hok
    dsimp only [jq1] at hx
    split at hx
    · next v hv =>
      split at hx
      · next hlt =>
        cases hx
        intro ad hag hN hwf hL hS
        exact js_aload_n (E.1 u w hu hw) hd h2 hv (hG _ h1 hu hw ad hag hN hwf hL (jwS_r hS hlt))
      · cases hx
    · cases hx
  | iload_n n =>
    simp only [jokc, jok2, Bool.and_eq_true, beq_iff_eq, decide_eq_true_eq] at hok
    obtain ⟨rfl, h1, h2⟩ := hok
    dsimp only [jq1] at hx
    split at hx
    · next v hv =>
      cases hx
      intro ad hag hN hwf hL hS
      exact js_iload_n (E.1 u w hu hw) hd h2 hv (hG _ h1 hu hw ad hag hN hwf hL (jwS_i hS))
    · cases hx
  | istore_n n =>
    simp only [jokc, jok2, Bool.and_eq_true, beq_iff_eq, decide_eq_true_eq] at hok
    obtain ⟨rfl, h1, h2⟩ := hok
    dsimp only [jq1] at hx
    split at hx
    · split at hx
      · next hs =>
        cases hx
        intro ad hag hN hwf hL hS
        exact js_istore_n (E.1 u w hu hw) hd h2 hs (hG _ h1 hu hw ad hag hN hwf (jwL_set hL) (jwS_t hS))
      · cases hx
    · cases hx
  | iinc n z =>
    simp only [jokc, jok2, Bool.and_eq_true, beq_iff_eq, decide_eq_true_eq] at hok
    obtain ⟨rfl, h1, rfl, h2⟩ := hok
    dsimp only [jq1] at hx
    split at hx
    · next v hv =>
      split at hx
      · next hs =>
        cases hx
        intro ad hag hN hwf hL hS
        exact js_iinc (E.1 u w hu hw) hd hv (by rw [h2]) hs (hG _ h1 hu hw ad hag hN hwf (jwL_set hL) hS)
      · cases hx
    · cases hx
  | dup =>
    simp only [jokc, jok2, Bool.and_eq_true, beq_iff_eq, decide_eq_true_eq] at hok
    obtain ⟨rfl, h1⟩ := hok
    dsimp only [jq1] at hx
    split at hx
    · split at hx
      · next v r hs =>
        cases hx
        intro ad hag hN hwf hL hS
        exact js_dup (E.1 u w hu hw) hd hs (hG _ h1 hu hw ad hag hN hwf hL (fun j hj => hS j (by
          rcases List.mem_cons.mp hj with h | h
          · exact h ▸ List.mem_cons_self
          · exact h)))
      · cases hx
    · cases hx
  | if_icmp cd off =>
    simp only [jokc, jok2, Bool.and_eq_true, beq_iff_eq, decide_eq_true_eq] at hok
    obtain ⟨rfl, h0, h1⟩ := hok
    obtain ⟨t, ht, h1⟩ := jnI_spec h1
    dsimp only [jq1] at hx
    split at hx
    · next y v r =>
      cases hx
      intro ad hag hN hwf hL hS
      have hS := jwS_t (jwS_t hS)
      have e1 : jic cd v y → jicB cd v y = true := by cases cd <;> simp [jic, jicB]
      have e2 : jnc cd v y → ¬ jicB cd v y = true := by cases cd <;> simp [jnc, jicB]
      refine js_icmp (E.1 u w hu hw) hd ht (fun h => ?_) (fun h => ?_)
      · exact hG t (by rw [if_pos (e1 h)]; exact h1) hu hw ad hag hN hwf hL hS
      · exact hG _ (by rw [if_neg (e2 h)]; exact h0) hu hw ad hag hN hwf hL hS
    · cases hx
  | goto off =>
    simp only [jokc, jok2, Bool.and_eq_true, beq_iff_eq, decide_eq_true_eq] at hok
    obtain ⟨rfl, h1⟩ := hok
    obtain ⟨t, ht, h1⟩ := jnI_spec h1
    cases hx
    intro ad hag hN hwf hL hS
    exact js_goto (E.1 u w hu hw) hd ht (hG t h1 hu hw ad hag hN hwf hL hS)
  | getfield n =>
    simp only [jokc, jok2, Bool.and_eq_true, beq_iff_eq, decide_eq_true_eq] at hok
    obtain ⟨rfl, h1, h2⟩ := hok
    obtain ⟨q, hq, hb, hw1⟩ := jFl_in h2
    dsimp only [jq1] at hx
    split at hx
    · next o r =>
      split at hx
      · next hj =>
        split at hx
        · next j hk =>
          cases hx
          intro ad hag hN hwf hL hS
          have hjN : j < N := hwf o b j (job_spec hj).1 (job_spec hj).2.2 hk
          exact js_get (v := .ref j) (E.1 u w hu hw) hq hb hw1 hj hd (by show jfv ad ((K o).2.2 b) _ = _; rw [hk]; rfl) (hG _ h1 hu hw ad hag hN hwf hL (jwS_r (jwS_t hS) hjN))
        · cases hx
      · cases hx
    · cases hx
  | putfield n =>
    dsimp only [jq1] at hx
    split at hx
    · next v o r =>
      split at hx
      · next hj =>
        cases hx
        simp only [jokc, if_neg hj.2.2.2] at hok
        simp only [jok2, Bool.and_eq_true, beq_iff_eq, decide_eq_true_eq] at hok
        obtain ⟨rfl, h1, h2, h3⟩ := hok
        obtain ⟨q, hq, hb, hw1⟩ := jFl_in h2
        rw [hq] at h3
        simp only [Bool.and_eq_true, decide_eq_true_eq, Bool.not_eq_true'] at h3
        intro ad hag hN hwf hL hS
        have k2 := hG _ h1 hu hw ad hag hN hwf hL (jwS_t (jwS_t hS))
        by_cases h4 : cv = 1
        · rw [if_pos h4] at h3
          refine js_put (E.1 u w hu hw) hq hb hw1 h3.1 h3.2 ?_ ?_ hj.1 hj.2.1 hd k2
          · rcases hj.2.2.1 h4 with rfl | rfl <;> rfl
          · rcases hj.2.2.1 h4 with rfl | rfl <;> rfl
        · rw [if_neg h4] at h3
          exact js_put (E.1 u w hu hw) hq hb hw1 h3.1 h3.2 rfl rfl hj.1 hj.2.1 hd k2
      · cases hx
    · next j o r =>
      split at hx
      · next hj =>
        cases hx
        simp only [jokc, if_pos hj.2, Bool.and_eq_true, beq_iff_eq] at hok
        obtain ⟨rfl, h1, h2, h3⟩ := hok
        obtain ⟨q, hq, hb, hw1⟩ := jFl_in h2
        rw [hq] at h3
        simp only [Bool.and_eq_true, decide_eq_true_eq] at h3
        obtain ⟨g1, g2, g3⟩ := h3
        split at g3
        · next t ht => exact jc_putr E hu hw hin hq hb hw1 g1 g2 ht (fun z => rfl) (fun z => rfl) hj.1 hd (hG _ h1 hu hw)
        · next t ht => exact jc_putr E hu hw hin hq hb hw1 g1 g2 ht (fun z => rfl) (fun z => rfl) hj.1 hd (hG _ h1 hu hw)
        · cases g3
      · cases hx
    · cases hx
  | aastore =>
    simp only [jokc, Bool.and_eq_true, beq_iff_eq] at hok
    obtain ⟨rfl, h1⟩ := hok
    dsimp only [jq1] at hx
    split at hx
    · split at hx
      · next hj =>
        cases hx
        exact jc_aast E hu hw hj.1 hj.2.1 hj.2.2.1 hj.2.2.2 hd (hG _ h1 hu hw)
      · cases hx
    · cases hx
  | new n =>
    simp only [jokc, Bool.and_eq_true, beq_iff_eq, decide_eq_true_eq] at hok
    obtain ⟨rfl, ⟨h1, h2⟩, h3⟩ := hok
    dsimp only [jq1] at hx
    split at hx
    · next hj =>
      cases hx
      obtain ⟨r, z, hr, -⟩ := jCt_ok a h3
      obtain ⟨-, -, w4, -, -, -, -, hcl, w2, q, hq, hq1, hq2⟩ := jCt_words hr
      exact jc_new E hq hq2 (by rw [hq1]; exact jQl_in h2) (by rw [hq1]; exact w2) (by rw [hq1, ← hcl]; exact w4) hj.1 hj.2.1 hj.2.2 hd (hG _ h1 hj.2.1 hj.2.2)
    · cases hx
  | newarray t =>
    simp only [jokc, Bool.and_eq_true, beq_iff_eq, decide_eq_true_eq] at hok
    obtain ⟨rfl, h1, h2⟩ := hok
    dsimp only [jq1] at hx
    split at hx
    · split at hx
      · next hj =>
        cases hx
        exact jc_newa E h2 hj.2.1 hj.2.2.1 hj.1 hj.2.2.2.1 hj.2.2.2.2 hd (hG _ h1 hj.2.2.2.1 hj.2.2.2.2)
      · cases hx
    · cases hx
  | anewarray n =>
    simp only [jokc, Bool.and_eq_true, Bool.or_eq_true, beq_iff_eq] at hok
    obtain ⟨rfl, h1, h2⟩ := hok
    dsimp only [jq1] at hx
    split at hx
    · split at hx
      · next hj =>
        cases hx
        rcases h2 with ⟨rfl, h2⟩ | ⟨rfl, h2⟩
        · exact jc_newq (C := RX2) E (Or.inl ⟨rfl, rfl⟩) (jQl_in h2) hj.2.1 hj.2.2.1 hj.1 hj.2.2.2.1 hj.2.2.2.2 hd (hG _ h1 hj.2.2.2.1 hj.2.2.2.2)
        · exact jc_newq (C := RX5) E (Or.inr ⟨rfl, rfl⟩) (jQl_in h2) hj.2.1 hj.2.2.1 hj.1 hj.2.2.2.1 hj.2.2.2.2 hd (hG _ h1 hj.2.2.2.1 hj.2.2.2.2)
      · cases hx
    · cases hx
  | invokespecial n =>
    simp only [jokc, Bool.and_eq_true, beq_iff_eq] at hok
    obtain ⟨rfl, h1, h2⟩ := hok
    dsimp only [jq1] at hx
    split at hx
    · next o r =>
      split at hx
      · next h0 =>
        split at hx
        · next hc =>
          cases hx
          rw [if_pos h0] at h2
          simp only [Bool.and_eq_true, decide_eq_true_eq] at h2
          exact jc_obj E hu hw h2.2 (jZl_in h2.1) hc hd (hG _ h1 hu hw)
        · cases hx
      · next h0 =>
        rw [if_neg h0] at h2
        split at hx
        · next r0 hr =>
          rw [hr] at h2
          simp only [Bool.and_eq_true, Bool.or_eq_true, decide_eq_true_eq] at h2
          split at hx
          · next hj =>
            split at hx
            · next M hM =>
              cases hx
              obtain ⟨ha, w5, w4, hd0, -, w2, hnm, hcl, -⟩ := jCt_words hr
              refine jc_call E (hF a r0 hr) w5 w4 w2 hnm hd0 ⟨h2.1, h2.2.1⟩ ?_ hj.1 hj.2.1 hj.2.2 hd hM (hG _ h1 hj.2.1 hj.2.2)
              rcases h2.2.2 with h3 | h3
              · exact Or.inl (jIl_in h3.2 hr)
              · refine Or.inr ⟨RX6, ?_⟩
                have h5 := E.2.1 (oi, n, a) (by simpa using h3)
                have hy : r0.1 = ⟨jcn a, "<init>", "()V"⟩ := by
                  have hall : (List.range 8).all (fun a => match jCt[a]? with
                    | some r => decide (r.1 = ⟨jcn a, "<init>", "()V"⟩)
                    | none => true) = true := by decide +kernel
                  have := List.all_eq_true.mp hall a (List.mem_range.mpr ha)
                  rw [hr] at this
                  simpa using this
                rw [hy]
                exact h5
            · cases hx
          · cases hx
        · cases hx
    · cases hx
  | _ => cases hx
theorem jq_ok {F : Nat → Nat → jM2 → Option jM2} {code : List jI} {oi : Nat} {Mf : jM2} (E : jE2 p R s m args c cc D cy nL A (jcn oi) Ts) (hF : ∀ (a : Nat) (r : jC), jCt[a]? = some r → jMet2 l r (fun o M M' => F a o M = some M')) (hin : meth.name = "<init>") (hok : ∀ (k : Nat) (q : jI), code[k]? = some q → decode cc q.1 = .ok (q.2.1, q.2.2.1) ∧ jokc oi R.frames R.locals code k q = true)
    (hR : ∀ (pc' : Nat) (L' : List (Option Value)) (u' w' : Nat), decode cc pc' = .ok (.return_, 1) → u' ≤ R.cells → w' ≤ R.slots → jT2 p l e R s m args below meth c Q D cy nL A N0 ad0 pc' L' [] Mf u' w') :
    ∀ (n pc : Nat) (S : jS2), S.2.2.2.2.1 ≤ R.cells → S.2.2.2.2.2 ≤ R.slots → jnx code S.1 pc = true → jq F R.cells R.slots code n S = some Mf → jT2 p l e R s m args below meth c Q D cy nL A N0 ad0 pc S.2.1 S.2.2.1 S.2.2.2.1 S.2.2.2.2.1 S.2.2.2.2.2 := by
  intro n
  induction n with
  | zero => intro pc S _ _ _ h; cases h
  | succ n ih =>
    intro pc S hu hw hn h
    obtain ⟨k, L, st, ⟨N, K, x⟩, u, w⟩ := S
    unfold jnx at hn
    unfold jq at h
    split at hn
    · next q hq =>
      rw [hq] at h
      simp only [beq_iff_eq] at hn
      obtain ⟨hd, hk⟩ := hok k q hq
      obtain ⟨pc0, i, len, a, b, cv, ts⟩ := q
      have hn : pc0 = pc := hn
      subst hn
      have stp : ∀ S', jq1 F R.cells R.slots (pc0, i, len, a, b, cv, ts) (k, L, st, (N, K, x), u, w) = some S' → jq F R.cells R.slots code n S' = some Mf → jT2 p l e R s m args below meth c Q D cy nL A N0 ad0 pc0 L st (N, K, x) u w := fun S' h1 h2 => jq1_ok E hF hin hd hk hu hw h1 (fun pc' hp hu' hw' => ih pc' S' hu' hw' hp h2)
      dsimp only at h
      split at h
      · split at h
        · next hst =>
          cases h
          have hst : st = [] := hst
          subst hst
          simp only [jokc, jok2, Bool.and_eq_true, beq_iff_eq] at hk
          have hd : decode cc pc0 = .ok (.return_, len) := hd
          rw [hk.1] at hd
          exact hR pc0 L u w hd hu hw
        · cases h
      · split at h
        · next S' h1 => exact stp S' h1 h
        · cases h
    · cases hn
end CQ
def jckc (a : Nat) : Bool := match jCt[a]?, jCc[a]? with
  | some r, some code => jnx code 0 0 && (List.range code.length).all (fun k => match code[k]? with
    | some q => decide (decode r.2.1 q.1 = .ok (q.2.1, q.2.2.1)) && jokc a r.2.2.2.1 r.2.2.2.2.1 code k q
    | none => true)
  | _, _ => false
theorem jckc_0 : jckc 0 = true := by decide +kernel
theorem jckc_1 : jckc 1 = true := by decide +kernel
theorem jckc_2 : jckc 2 = true := by decide +kernel
theorem jckc_3 : jckc 3 = true := by decide +kernel
theorem jckc_4 : jckc 4 = true := by decide +kernel
theorem jckc_5 : jckc 5 = true := by decide +kernel
theorem jckc_6 : jckc 6 = true := by decide +kernel
theorem jckc_7 : jckc 7 = true := by decide +kernel
theorem jckc_ok {a : Nat} (h : a < 8) : jckc a = true := by
  match a, h with
  | 0, _ => exact jckc_0
  | 1, _ => exact jckc_1
  | 2, _ => exact jckc_2
  | 3, _ => exact jckc_3
  | 4, _ => exact jckc_4
  | 5, _ => exact jckc_5
  | 6, _ => exact jckc_6
  | 7, _ => exact jckc_7
theorem jctor (l : Launch) : ∀ (d a : Nat) (r : jC), jCt[a]? = some r → jMet2 l r (fun o M M' => jF d a o M = some M') := by
  intro d
  induction d with
  | zero => intro a r _ D cy ad o M M' sz _ _ h; cases h
  | succ d ih =>
    intro a r hr D cy ad o M M' sz hwf ho h
    obtain ⟨ha, w5, w4, hd0, hp, w2, hnm, hcl, -⟩ := jCt_words hr
    have hck := jckc_ok ha
    unfold jF at h
    unfold jckc at hck
    rw [hr] at h hck
    split at h
    · next r' code h1 h2 =>
      cases h1
      rw [h2] at hck
      simp only [Bool.and_eq_true] at hck
      refine Met.ofW (cc := r.2.1) (maxL := r.2.2.1) (ret := none) hp rfl ?_
      intro p e s m args below meth c s₁ B hml hv
      obtain ⟨rfl, ⟨hsz, hP, hK, hD0⟩, hNw⟩ := hv
      have hrt := B.returns
      have hts := atoms_spec (ws := .code r.1 r.2.1 r.2.2.1 none :: jt) B.pre
      have hown : s.vm.findClass (jcn a) = some m.cls := by rw [← hcl]; exact findClass_of_methodNamed B.named
      have hlocks := B.notSynchronized
      have hin : meth.name = "<init>" := by rw [(name_of_methodNamed B.named B.method).1]; exact hnm
      subst hsz
      have hD := hD0.self (sz := s.heap.size)
      generalize hAe : va_A (jW ad cy M.1 M.2.1 M.2.2) s.heap.size = A at hD ⊢
      have hA : ∀ q : Nat, s.heap.size ≤ q → A q := fun q h => by rw [← hAe]; exact Or.inr h
      have e0 : ([Value.ref (ad o)] : List Value) = [Value.ref o].map (jv ad) := rfl
      rw [e0, lg_entry_eq]
      have E : jE2 p (headSpec (.code r.1 r.2.1 r.2.2.1 none :: jt) (jrc r)).room s m ([Value.ref o].map (jv ad)).toArray c r.2.1 D cy r.2.2.1 A (jcn a) (.code r.1 r.2.1 r.2.2.1 none :: jt) :=
        ⟨fun u w hu hw => ⟨B.exec, B.bytes, hml, hown, hts, hK, hA, fun w h => List.mem_cons_of_mem _ h, hu, hw⟩, hNw⟩
      have hfit : (jent [Value.ref o]).length ≤ r.2.2.1 := by
        have hall : (List.range 8).all (fun a => match jCt[a]? with
          | some r => decide (1 ≤ r.2.2.1)
          | none => true) = true := by decide +kernel
        have := List.all_eq_true.mp hall a (List.mem_range.mpr ha)
        rw [hr] at this
        have h9 : 1 ≤ r.2.2.1 := by simpa using this
        exact h9
      refine jq_ok (l := l) (Q := MQ below (jPost2 D cy ad M.1 A M') ([Value.ref o].map (jv ad)).toArray s r.2.2.2.2.2.1 r.2.2.2.2.2.2 A) (N0 := M.1) (ad0 := ad) E ih hin (fun k q hq => ?_) ?_ 400 0 (0, jenL r.2.2.1 [.ref o], [], M, 0, 0) (Nat.zero_le _) (Nat.zero_le _) hck.1 h ad (fun _ _ => rfl) (Nat.le_refl _) hwf ?_ (fun j hj => absurd hj List.not_mem_nil) s.heap [] _ hP hD va_S.rf (jL_entry hfit)
      · have := List.all_eq_true.mp hck.2 k (List.mem_range.mpr (List.getElem?_eq_some_iff.mp hq).1)
        rw [hq] at this
        simp only [Bool.and_eq_true, decide_eq_true_eq] at this
        exact this
      · intro pc' L' u' w' hd hu hw ad' hag hN hwf' hL hS H locs ls hP hD hS' hL'
        refine W.widen (k := r.2.2.2.2.2.1) (n := r.2.2.2.2.2.2) hu hw ?_
        exact W.vret B.exec B.bytes hrt (fun t ht hW => ⟨⟨rfl, ad', hag, hwf', hN, by rw [ht]; exact hP, va_K.moved hW.alike hK, hD⟩, hS'.F ht⟩) hS'.2.2 hd
      · intro i j hj
        unfold jenL at hj
        match i, hj with
        | 0, hj =>
          have hj : some (some (Value.ref o)) = some (some (Value.ref j)) := hj
          cases hj
          exact Or.inl ho
        | i + 1, hj =>
          simp [jent, Value.category, List.getElem?_replicate] at hj
    · cases h
end
section
/-! THE MEMORY AT THE BEGINNING: 136 cells; 0 the class's object, 121 the reference's -/
def jsl (l : List Nat) (k : Nat) : Nat := l.getD k 1
def jKa : List jSh := [(6, 10, jsl [3, 13, 17, 21, 25, 107, 118, 122, 0, 0]),
  (4, 7, jsl [4, 0, 5, 9, 0, 0, 0]),
  (8, 240, fun _ => 0),
  (0, 7, jsl [0, 0, 0, 6, 7, 0, 8]),
  (8, 8, fun _ => 0),
  (8, 8, fun _ => 0),
  (8, 4, fun _ => 0),
  (5, 5, jsl [10, 0, 11, 12, 0]),
  (8, 8, fun _ => 0),
  (8, 8, fun _ => 0),
  (8, 8, fun _ => 0),
  (0, 7, jsl [0, 0, 0, 14, 15, 0, 16]),
  (8, 8, fun _ => 0),
  (8, 8, fun _ => 0),
  (8, 4, fun _ => 0),
  (5, 5, jsl [18, 0, 19, 20, 0]),
  (8, 8, fun _ => 0),
  (8, 8, fun _ => 0),
  (8, 8, fun _ => 0),
  (5, 5, jsl [22, 0, 23, 24, 0]),
  (8, 8, fun _ => 0),
  (8, 8, fun _ => 0),
  (8, 8, fun _ => 0),
  (1, 3, jsl [26, 0, 0]),
  (11, 20, fun k => 27 + 4 * k)]
def jKb : List jSh := [(10, 2, fun k => 108 + 5 * k),
  (2, 3, jsl [0, 109, 0]),
  (5, 5, jsl [110, 0, 111, 112, 0]),
  (8, 8, fun _ => 0),
  (8, 8, fun _ => 0),
  (8, 8, fun _ => 0),
  (2, 3, jsl [0, 114, 0]),
  (5, 5, jsl [115, 0, 116, 117, 0]),
  (8, 8, fun _ => 0),
  (8, 8, fun _ => 0),
  (8, 8, fun _ => 0),
  (3, 5, jsl [0, 119, 0, 120, 121]),
  (8, 8, fun _ => 0),
  (8, 15, fun _ => 0),
  (8, 15, fun _ => 0),
  (8, 8, fun _ => 0),
  (7, 32, jsl [124, 125, 0, 0, 0, 0, 126, 127, 0, 128, 129, 0, 0, 0, 0, 0, 0, 0, 0, 0, 130, 0, 131, 0, 132, 133, 134, 0, 135, 0, 136, 137]),
  (8, 648, fun _ => 0),
  (9, 2, fun _ => 0),
  (8, 8, fun _ => 0),
  (8, 8, fun _ => 0),
  (8, 4, fun _ => 0),
  (8, 240, fun _ => 0),
  (8, 24, fun _ => 0),
  (8, 16, fun _ => 0),
  (8, 4, fun _ => 0),
  (8, 8, fun _ => 0),
  (8, 8, fun _ => 0),
  (8, 8, fun _ => 0),
  (8, 15, fun _ => 0),
  (8, 15, fun _ => 0)]
def jKst (b r : Nat) : jSh := if r = 0 then (5, 5, jsl [b + 3, 0, b + 4, b + 5, 0]) else (8, 8, fun _ => 0)
def jK (i : Nat) : jSh := if i < 25 then jKa.getD i (0, 0, fun _ => 0) else if i < 105 then jKst (25 + 4 * ((i - 25) / 4)) ((i - 25) % 4) else jKb.getD (i - 105) (0, 0, fun _ => 0)
def jx0 : jM := fun i k => if i = 0 ∧ k = 9 then -1 else if i = 121 ∧ k = 16 then -1 else 0
def jM1 : jM2 := (1, jKp (fun _ => (0, 0, fun _ => 0)) 0 (6, jfc 6, jdf 6), jua (fun _ _ => 0) 0 (fun _ => 0))
def jMn (M : jM2) : jM2 := (M.1 + 1, jKp M.2.1 M.1 (7, jfc 7, jdf 7), jua M.2.2 M.1 (fun _ => 0))
def jinB : Bool := match jF 9 6 0 jM1 with
  | none => false
  | some M2 => M2.1 == 121 && (match jF 9 7 121 (jMn M2) with
    | none => false
    | some M4 => M4.1 == 136 && (List.range 136).all (fun i => (M4.2.1 i).1 == (jK i).1 && ((M4.2.1 i).2.1 == (jK i).2.1 && (List.range (jK i).2.1).all (fun k => (decide (8 ≤ (jK i).1 ∧ (jK i).1 < 10) || (M4.2.1 i).2.2 k == (jK i).2.2 k) && decide (M4.2.2 i k = jx0 i k)))))
set_option maxRecDepth 100000 in
theorem jinB_ok : jinB = true := by decide +kernel
theorem jin : ∃ M2 M4 : jM2, jF 9 6 0 jM1 = some M2 ∧ M2.1 = 121 ∧ jF 9 7 121 (jMn M2) = some M4 ∧ M4.1 = 136 ∧ ∀ i, i < 136 → (M4.2.1 i).1 = (jK i).1 ∧ (M4.2.1 i).2.1 = (jK i).2.1 ∧ ∀ k, k < (jK i).2.1 → (((8 ≤ (jK i).1 ∧ (jK i).1 < 10) ∨ (M4.2.1 i).2.2 k = (jK i).2.2 k) ∧ M4.2.2 i k = jx0 i k) := by
  have h := jinB_ok
  unfold jinB at h
  split at h
  · cases h
  · next M2 h2 =>
    simp only [Bool.and_eq_true, beq_iff_eq] at h
    obtain ⟨e2, h⟩ := h
    split at h
    · cases h
    · next M4 h4 =>
      simp only [Bool.and_eq_true, beq_iff_eq] at h
      refine ⟨M2, M4, h2, e2, h4, h.1, fun i hi => ?_⟩
      have g := List.all_eq_true.mp h.2 i (List.mem_range.mpr hi)
      simp only [Bool.and_eq_true, beq_iff_eq] at g
      refine ⟨g.1, g.2.1, fun k hk => ?_⟩
      have g2 := List.all_eq_true.mp g.2.2 k (List.mem_range.mpr hk)
      simpa using g2
/-- worlds of the same cells -/
theorem jce_same {D : va_G} {ad : Nat → Nat} {cy : Nat → ClassId} {h h' : jSh} {f f' : Nat → Int32} {a : Nat} {H : Heap} (e1 : h.1 = h'.1) (e2 : h.2.1 = h'.2.1) (e3 : ∀ k, k < h'.2.1 → ((8 ≤ h'.1 ∧ h'.1 < 10) ∨ h.2.2 k = h'.2.2 k) ∧ f k = f' k) (hh : va_at D vwCl (a, jce ad cy h f) H) : va_at D vwCl (a, jce ad cy h' f') H := by
  by_cases h1 : h'.1 < 8
  · rw [jce_obj (by omega)] at hh
    rw [jce_obj h1]
    have : (List.range h.2.1).map (fun k => jfv ad (h.2.2 k) (f k)) = (List.range h'.2.1).map (fun k => jfv ad (h'.2.2 k) (f' k)) := by
      rw [e2]
      refine List.map_congr_left (fun k hk => ?_)
      obtain ⟨g1, g2⟩ := e3 k (List.mem_range.mp hk)
      rcases g1 with g1 | g1
      · omega
      · rw [g1, g2]
    rw [this, e1] at hh
    exact hh
  · by_cases h2 : h'.1 < 10
    · rw [jce_int (by omega) (by omega)] at hh
      rw [jce_int h1 h2]
      rw [e1, e2] at hh
      have : arrV (cy h'.1) h'.2.1 (fun j => Value.int (f j)) = arrV (cy h'.1) h'.2.1 (fun j => Value.int (f' j)) := by
        unfold arrV
        congr 2
        funext j
        show Value.int (f j) = Value.int (f' j)
        rw [(e3 j.1 j.2).2]
      have hh : H[a]? = some (arrV (cy h'.1) h'.2.1 (fun j => Value.int (f j))) := hh
      rw [this] at hh
      exact hh
    · rw [jce_ref (by omega)] at hh
      rw [jce_ref h2]
      rw [e1, e2] at hh
      have : (fun k : Nat => if k < h'.2.1 then jrf ad (h.2.2 k) else none) = (fun k : Nat => if k < h'.2.1 then jrf ad (h'.2.2 k) else none) := by
        funext k
        by_cases hk : k < h'.2.1
        · rw [if_pos hk, if_pos hk]
          rcases (e3 k hk).1 with g1 | g1
          · omega
          · rw [g1]
        · rw [if_neg hk, if_neg hk]
      rw [this] at hh
      exact hh
theorem jW_same {D : va_G} {ad : Nat → Nat} {cy : Nat → ClassId} {N : Nat} {K K' : Nat → jSh} {x x' : jM} {H : Heap} (h : ∀ i, i < N → (K i).1 = (K' i).1 ∧ (K i).2.1 = (K' i).2.1 ∧ ∀ k, k < (K' i).2.1 → (((8 ≤ (K' i).1 ∧ (K' i).1 < 10) ∨ (K i).2.2 k = (K' i).2.2 k) ∧ x i k = x' i k)) (hP : va_P D vwCl (jW ad cy N K x) H) : va_P D vwCl (jW ad cy N K' x') H := by
  intro k q hq
  have hk : k < N := by
    have := (List.getElem?_eq_some_iff.mp hq).1
    simpa [jW] using this
  rw [jW_at hk] at hq
  cases hq
  obtain ⟨g1, g2, g3⟩ := h k hk
  exact jce_same g1 g2 g3 (hP k _ (jW_at hk))
theorem jD_same {A : Nat → Prop} {ad : Nat → Nat} {cy : Nat → ClassId} {N : Nat} {K K' : Nat → jSh} {x x' : jM} (hD : va_D A (jW ad cy N K x)) : va_D A (jW ad cy N K' x') := by
  have key : ∀ (k : Nat) (q : Nat × va_E), (jW ad cy N K' x')[k]? = some q → ∃ q', (jW ad cy N K x)[k]? = some q' ∧ q'.1 = q.1 := by
    intro k q hq
    have hk : k < N := by
      have := (List.getElem?_eq_some_iff.mp hq).1
      simpa [jW] using this
    rw [jW_at hk] at hq
    cases hq
    exact ⟨_, jW_at hk, rfl⟩
  refine ⟨fun i j p q hp hq e => ?_, fun k q hq => ?_⟩
  · obtain ⟨p', h1, e1⟩ := key i p hp
    obtain ⟨q', h2, e2⟩ := key j q hq
    exact hD.1 i j p' q' h1 h2 (by rw [e1, e2, e])
  · obtain ⟨q', h1, e1⟩ := key k q hq
    rw [← e1]
    exact hD.2 k q' h1
end
section
/-! THE CLAIM OUT OF ONE WALK OF THE LAW'S BODY. Your part is whole_start (and what it stands on); all else here is the same for every law, but numbers. -/
def R_law : String := "SignedCrossLaw"
def lw_P (b : Addr) (xs : List Int32) (args : Array Value) (s : State) : Prop := args = #[.ref b] ∧ s.IntsAt b xs ∧ xs.length ≤ 192 ∧ (Jvm.Cond.and given_1 narrow_1).before args s = true
def lw_Q (_ : Array Value) (s : State) (o : Outcome) (t : State) : Prop := o = .returned (some (.int 1)) ∧ Framed s o t [] 600000 7302250
def lw_Z (below : List Frame) (a : Array Value) (s : State) : State → Prop := fun t => ∃ o, t.status = .running ∧ Ended t below o ∧ lw_Q a s o t
/-- the law's own end, with 1 on the stack, nothing written that was there before, its room as the claim has it -/
theorem lw_ret {p : Program} {l : Launch} {e : Env} {s : State} {m : MethodId} {below : List Frame} {meth : Method} {c : Code} {b : Nat} (hx : p.tables.exec = Jvm.exec) (hb : c.code = code) (hr : meth.sig.returnType = ret) (hlocks : meth.locks = false) {pc : Nat} {H : Heap} {ls : Array Slot} (hdg : decode code pc = .ok (.ireturn, 1)) : W p l e room_1 s m #[Value.ref b] below meth c H [] 600000 7302250 (lw_Z below #[Value.ref b] s) (F0 m pc ls [.int 1]) := by
  intro T hT X
  obtain ⟨fs, hret, hrun, hended, hW, hframe⟩ := X.leave (v := some (.int 1)) (hlocks := hlocks) (fun h => by rw [hr] at h; cases h)
  have hmeth' : T.vm.method? m = some meth := X.method'
  refine ⟨T.setFrames fs, ?_, .returned (some (.int 1)), hrun, hended, rfl, ⟨_, rfl⟩, hW, hframe⟩
  jvm_step X.here [X.here.top, hx, hb, hdg, hmeth', hr, ret, narrow_b1]
  (try refine ⟨rfl, ?_⟩); (try refine ⟨rfl, ?_⟩)
  first | (intro acts; rw [hret _ acts rfl rfl rfl]) | rw [hret _ _ rfl rfl rfl]
  exact Steps.refl _
/-- what holds at the law's entry: the machine, the code, the tables' words (any of lw_tbl by 'hts w (by decide +kernel)'), the script of L ints xs at the cell b, what the Statement gives of the start (any of its parts by flat_of_before) -/
def lw_At (p : Program) (s : State) (m : MethodId) (meth : Method) (c : Code) (b L : Nat) (xs : Nat → Int32) : Prop :=
  p.tables.exec = Jvm.exec ∧ c.code = code ∧ meth.sig.returnType = ret ∧ c.maxLocals = 4 ∧ s.vm.findClass R_law = some m.cls ∧ (∀ w ∈ lw_tbl, w.before #[Value.ref b] s = true) ∧ va_X b L xs s s.heap ∧ b < s.heap.size ∧ meth.locks = false ∧ (Jvm.Cond.and given_1 narrow_1).before #[Value.ref b] s = true

def kL : List jI := [(16, .iconst 0, 1, 0, 0, 0, []),
  (17, .istore_n 3, 1, 3, 0, 0, []),
  (18, .iload_n 3, 1, 3, 0, 0, []),
  (19, .aload_n 0, 1, 0, 0, 0, []),
  (20, .arraylength, 1, 0, 0, 0, []),
  (21, .iconst 3, 1, 0, 0, 3, []),
  (22, .isub, 1, 0, 0, 0, []),
  (23, .if_icmp .gt 1000, 3, 0, 0, 0, [615]),
  (26, .aload_n 0, 1, 0, 0, 0, []),
  (27, .iload_n 3, 1, 3, 0, 0, []),
  (28, .iaload, 1, 0, 0, 0, []),
  (29, .bipush 63, 2, 0, 0, 63, []),
  (31, .iand, 1, 0, 0, 0, []),
  (32, .tableswitch 985 0 36 #[164, 187, 200, 213, 236, 269, 302, 325, 348, 381, 414, 427, 450, 463, 486, 519, 542, 565, 588, 601, 614, 627, 650, 673, 696, 719, 742, 775, 808, 831, 844, 857, 890, 903, 916, 939, 962], 164, 0, 0, 0, [613, 14, 31, 38, 45, 62, 89, 116, 133, 150, 177, 204, 211, 228, 235, 252, 279, 296, 313, 330, 337, 344, 351, 368, 385, 402, 419, 436, 463, 490, 507, 514, 521, 548, 555, 562, 579, 596]),
  (196, .aload_n 1, 1, 1, 0, 0, []),
  (197, .aload_n 0, 1, 0, 0, 0, []),
  (198, .iload_n 3, 1, 3, 0, 0, []),
  (199, .iconst 1, 1, 0, 0, 1, []),
  (200, .iadd, 1, 0, 0, 0, []),
  (201, .iaload, 1, 0, 0, 0, []),
  (202, .invokevirtual 13, 3, 24, 1, 6, []),
  (205, .aload_n 2, 1, 2, 0, 0, []),
  (206, .aload_n 0, 1, 0, 0, 0, []),
  (207, .iload_n 3, 1, 3, 0, 0, []),
  (208, .iconst 1, 1, 0, 0, 1, []),
  (209, .iadd, 1, 0, 0, 0, []),
  (210, .iaload, 1, 0, 0, 0, []),
  (211, .invokevirtual 17, 3, 92, 1, 7, []),
  (214, .if_icmp .eq 803, 3, 0, 0, 0, [613]),
  (217, .iconst 0, 1, 0, 0, 0, []),
  (218, .ireturn, 1, 0, 0, 1, []),
  (219, .aload_n 1, 1, 1, 0, 0, []),
  (220, .invokevirtual 18, 3, 25, 0, 6, []),
  (223, .aload_n 2, 1, 2, 0, 0, []),
  (224, .invokevirtual 22, 3, 103, 0, 7, []),
  (227, .if_icmp .eq 790, 3, 0, 0, 0, [613]),
  (230, .iconst 0, 1, 0, 0, 0, []),
  (231, .ireturn, 1, 0, 0, 1, []),
  (232, .aload_n 1, 1, 1, 0, 0, []),
  (233, .invokevirtual 23, 3, 26, 0, 6, []),
  (236, .aload_n 2, 1, 2, 0, 0, []),
  (237, .invokevirtual 26, 3, 104, 0, 7, []),
  (240, .if_icmp .eq 777, 3, 0, 0, 0, [613]),
  (243, .iconst 0, 1, 0, 0, 0, []),
  (244, .ireturn, 1, 0, 0, 1, []),
  (245, .aload_n 1, 1, 1, 0, 0, []),
  (246, .aload_n 0, 1, 0, 0, 0, []),
  (247, .iload_n 3, 1, 3, 0, 0, []),
  (248, .iconst 1, 1, 0, 0, 1, []),
  (249, .iadd, 1, 0, 0, 0, []),
  (250, .iaload, 1, 0, 0, 0, []),
  (251, .invokevirtual 27, 3, 27, 1, 6, []),
  (254, .aload_n 2, 1, 2, 0, 0, []),
  (255, .aload_n 0, 1, 0, 0, 0, []),
  (256, .iload_n 3, 1, 3, 0, 0, []),
  (257, .iconst 1, 1, 0, 0, 1, []),
  (258, .iadd, 1, 0, 0, 0, []),
  (259, .iaload, 1, 0, 0, 0, []),
  (260, .invokevirtual 30, 3, 105, 1, 7, []),
  (263, .if_icmp .eq 754, 3, 0, 0, 0, [613]),
  (266, .iconst 0, 1, 0, 0, 0, []),
  (267, .ireturn, 1, 0, 0, 1, []),
  (268, .aload_n 1, 1, 1, 0, 0, []),
  (269, .aload_n 0, 1, 0, 0, 0, []),
  (270, .iload_n 3, 1, 3, 0, 0, []),
  (271, .iconst 1, 1, 0, 0, 1, []),
  (272, .iadd, 1, 0, 0, 0, []),
  (273, .iaload, 1, 0, 0, 0, []),
  (274, .aload_n 0, 1, 0, 0, 0, []),
  (275, .iload_n 3, 1, 3, 0, 0, []),
  (276, .iconst 2, 1, 0, 0, 2, []),
  (277, .iadd, 1, 0, 0, 0, []),
  (278, .iaload, 1, 0, 0, 0, []),
  (279, .invokevirtual 31, 3, 28, 2, 6, []),
  (282, .aload_n 2, 1, 2, 0, 0, []),
  (283, .aload_n 0, 1, 0, 0, 0, []),
  (284, .iload_n 3, 1, 3, 0, 0, []),
  (285, .iconst 1, 1, 0, 0, 1, []),
  (286, .iadd, 1, 0, 0, 0, []),
  (287, .iaload, 1, 0, 0, 0, []),
  (288, .aload_n 0, 1, 0, 0, 0, []),
  (289, .iload_n 3, 1, 3, 0, 0, []),
  (290, .iconst 2, 1, 0, 0, 2, []),
  (291, .iadd, 1, 0, 0, 0, []),
  (292, .iaload, 1, 0, 0, 0, []),
  (293, .invokevirtual 35, 3, 111, 2, 7, []),
  (296, .if_icmp .eq 721, 3, 0, 0, 0, [613]),
  (299, .iconst 0, 1, 0, 0, 0, []),
  (300, .ireturn, 1, 0, 0, 1, []),
  (301, .aload_n 1, 1, 1, 0, 0, []),
  (302, .aload_n 0, 1, 0, 0, 0, []),
  (303, .iload_n 3, 1, 3, 0, 0, []),
  (304, .iconst 1, 1, 0, 0, 1, []),
  (305, .iadd, 1, 0, 0, 0, []),
  (306, .iaload, 1, 0, 0, 0, []),
  (307, .aload_n 0, 1, 0, 0, 0, []),
  (308, .iload_n 3, 1, 3, 0, 0, []),
  (309, .iconst 2, 1, 0, 0, 2, []),
  (310, .iadd, 1, 0, 0, 0, []),
  (311, .iaload, 1, 0, 0, 0, []),
  (312, .invokevirtual 36, 3, 29, 2, 6, []),
  (315, .aload_n 2, 1, 2, 0, 0, []),
  (316, .aload_n 0, 1, 0, 0, 0, []),
  (317, .iload_n 3, 1, 3, 0, 0, []),
  (318, .iconst 1, 1, 0, 0, 1, []),
  (319, .iadd, 1, 0, 0, 0, []),
  (320, .iaload, 1, 0, 0, 0, []),
  (321, .aload_n 0, 1, 0, 0, 0, []),
  (322, .iload_n 3, 1, 3, 0, 0, []),
  (323, .iconst 2, 1, 0, 0, 2, []),
  (324, .iadd, 1, 0, 0, 0, []),
  (325, .iaload, 1, 0, 0, 0, []),
  (326, .invokevirtual 39, 3, 112, 2, 7, []),
  (329, .if_icmp .eq 688, 3, 0, 0, 0, [613]),
  (332, .iconst 0, 1, 0, 0, 0, []),
  (333, .ireturn, 1, 0, 0, 1, []),
  (334, .aload_n 1, 1, 1, 0, 0, []),
  (335, .aload_n 0, 1, 0, 0, 0, []),
  (336, .iload_n 3, 1, 3, 0, 0, []),
  (337, .iconst 1, 1, 0, 0, 1, []),
  (338, .iadd, 1, 0, 0, 0, []),
  (339, .iaload, 1, 0, 0, 0, []),
  (340, .invokevirtual 40, 3, 30, 1, 6, []),
  (343, .aload_n 2, 1, 2, 0, 0, []),
  (344, .aload_n 0, 1, 0, 0, 0, []),
  (345, .iload_n 3, 1, 3, 0, 0, []),
  (346, .iconst 1, 1, 0, 0, 1, []),
  (347, .iadd, 1, 0, 0, 0, []),
  (348, .iaload, 1, 0, 0, 0, []),
  (349, .invokevirtual 43, 3, 113, 1, 7, []),
  (352, .if_icmp .eq 665, 3, 0, 0, 0, [613]),
  (355, .iconst 0, 1, 0, 0, 0, []),
  (356, .ireturn, 1, 0, 0, 1, []),
  (357, .aload_n 1, 1, 1, 0, 0, []),
  (358, .aload_n 0, 1, 0, 0, 0, []),
  (359, .iload_n 3, 1, 3, 0, 0, []),
  (360, .iconst 1, 1, 0, 0, 1, []),
  (361, .iadd, 1, 0, 0, 0, []),
  (362, .iaload, 1, 0, 0, 0, []),
  (363, .invokevirtual 44, 3, 31, 1, 6, []),
  (366, .aload_n 2, 1, 2, 0, 0, []),
  (367, .aload_n 0, 1, 0, 0, 0, []),
  (368, .iload_n 3, 1, 3, 0, 0, []),
  (369, .iconst 1, 1, 0, 0, 1, []),
  (370, .iadd, 1, 0, 0, 0, []),
  (371, .iaload, 1, 0, 0, 0, []),
  (372, .invokevirtual 47, 3, 117, 1, 7, []),
  (375, .if_icmp .eq 642, 3, 0, 0, 0, [613]),
  (378, .iconst 0, 1, 0, 0, 0, []),
  (379, .ireturn, 1, 0, 0, 1, []),
  (380, .aload_n 1, 1, 1, 0, 0, []),
  (381, .aload_n 0, 1, 0, 0, 0, []),
  (382, .iload_n 3, 1, 3, 0, 0, []),
  (383, .iconst 1, 1, 0, 0, 1, []),
  (384, .iadd, 1, 0, 0, 0, []),
  (385, .iaload, 1, 0, 0, 0, []),
  (386, .aload_n 0, 1, 0, 0, 0, []),
  (387, .iload_n 3, 1, 3, 0, 0, []),
  (388, .iconst 2, 1, 0, 0, 2, []),
  (389, .iadd, 1, 0, 0, 0, []),
  (390, .iaload, 1, 0, 0, 0, []),
  (391, .invokevirtual 48, 3, 32, 2, 6, []),
  (394, .aload_n 2, 1, 2, 0, 0, []),
  (395, .aload_n 0, 1, 0, 0, 0, []),
  (396, .iload_n 3, 1, 3, 0, 0, []),
  (397, .iconst 1, 1, 0, 0, 1, []),
  (398, .iadd, 1, 0, 0, 0, []),
  (399, .iaload, 1, 0, 0, 0, []),
  (400, .aload_n 0, 1, 0, 0, 0, []),
  (401, .iload_n 3, 1, 3, 0, 0, []),
  (402, .iconst 2, 1, 0, 0, 2, []),
  (403, .iadd, 1, 0, 0, 0, []),
  (404, .iaload, 1, 0, 0, 0, []),
  (405, .invokevirtual 51, 3, 118, 2, 7, []),
  (408, .if_icmp .eq 609, 3, 0, 0, 0, [613]),
  (411, .iconst 0, 1, 0, 0, 0, []),
  (412, .ireturn, 1, 0, 0, 1, []),
  (413, .aload_n 1, 1, 1, 0, 0, []),
  (414, .aload_n 0, 1, 0, 0, 0, []),
  (415, .iload_n 3, 1, 3, 0, 0, []),
  (416, .iconst 1, 1, 0, 0, 1, []),
  (417, .iadd, 1, 0, 0, 0, []),
  (418, .iaload, 1, 0, 0, 0, []),
  (419, .aload_n 0, 1, 0, 0, 0, []),
  (420, .iload_n 3, 1, 3, 0, 0, []),
  (421, .iconst 2, 1, 0, 0, 2, []),
  (422, .iadd, 1, 0, 0, 0, []),
  (423, .iaload, 1, 0, 0, 0, []),
  (424, .invokevirtual 52, 3, 33, 2, 6, []),
  (427, .aload_n 2, 1, 2, 0, 0, []),
  (428, .aload_n 0, 1, 0, 0, 0, []),
  (429, .iload_n 3, 1, 3, 0, 0, []),
  (430, .iconst 1, 1, 0, 0, 1, []),
  (431, .iadd, 1, 0, 0, 0, []),
  (432, .iaload, 1, 0, 0, 0, []),
  (433, .aload_n 0, 1, 0, 0, 0, []),
  (434, .iload_n 3, 1, 3, 0, 0, []),
  (435, .iconst 2, 1, 0, 0, 2, []),
  (436, .iadd, 1, 0, 0, 0, []),
  (437, .iaload, 1, 0, 0, 0, []),
  (438, .invokevirtual 55, 3, 119, 2, 7, []),
  (441, .if_icmp .eq 576, 3, 0, 0, 0, [613]),
  (444, .iconst 0, 1, 0, 0, 0, []),
  (445, .ireturn, 1, 0, 0, 1, []),
  (446, .aload_n 1, 1, 1, 0, 0, []),
  (447, .invokevirtual 56, 3, 34, 0, 6, []),
  (450, .aload_n 2, 1, 2, 0, 0, []),
  (451, .invokevirtual 59, 3, 120, 0, 7, []),
  (454, .if_icmp .eq 563, 3, 0, 0, 0, [613]),
  (457, .iconst 0, 1, 0, 0, 0, []),
  (458, .ireturn, 1, 0, 0, 1, []),
  (459, .aload_n 1, 1, 1, 0, 0, []),
  (460, .aload_n 0, 1, 0, 0, 0, []),
  (461, .iload_n 3, 1, 3, 0, 0, []),
  (462, .iconst 1, 1, 0, 0, 1, []),
  (463, .iadd, 1, 0, 0, 0, []),
  (464, .iaload, 1, 0, 0, 0, []),
  (465, .invokevirtual 60, 3, 35, 1, 6, []),
  (468, .aload_n 2, 1, 2, 0, 0, []),
  (469, .aload_n 0, 1, 0, 0, 0, []),
  (470, .iload_n 3, 1, 3, 0, 0, []),
  (471, .iconst 1, 1, 0, 0, 1, []),
  (472, .iadd, 1, 0, 0, 0, []),
  (473, .iaload, 1, 0, 0, 0, []),
  (474, .invokevirtual 63, 3, 123, 1, 7, []),
  (477, .if_icmp .eq 540, 3, 0, 0, 0, [613]),
  (480, .iconst 0, 1, 0, 0, 0, []),
  (481, .ireturn, 1, 0, 0, 1, []),
  (482, .aload_n 1, 1, 1, 0, 0, []),
  (483, .invokevirtual 64, 3, 36, 0, 6, []),
  (486, .aload_n 2, 1, 2, 0, 0, []),
  (487, .invokevirtual 67, 3, 115, 0, 7, []),
  (490, .if_icmp .eq 527, 3, 0, 0, 0, [613]),
  (493, .iconst 0, 1, 0, 0, 0, []),
  (494, .ireturn, 1, 0, 0, 1, []),
  (495, .aload_n 1, 1, 1, 0, 0, []),
  (496, .aload_n 0, 1, 0, 0, 0, []),
  (497, .iload_n 3, 1, 3, 0, 0, []),
  (498, .iconst 1, 1, 0, 0, 1, []),
  (499, .iadd, 1, 0, 0, 0, []),
  (500, .iaload, 1, 0, 0, 0, []),
  (501, .invokevirtual 68, 3, 37, 1, 6, []),
  (504, .aload_n 2, 1, 2, 0, 0, []),
  (505, .aload_n 0, 1, 0, 0, 0, []),
  (506, .iload_n 3, 1, 3, 0, 0, []),
  (507, .iconst 1, 1, 0, 0, 1, []),
  (508, .iadd, 1, 0, 0, 0, []),
  (509, .iaload, 1, 0, 0, 0, []),
  (510, .invokevirtual 71, 3, 125, 1, 7, []),
  (513, .if_icmp .eq 504, 3, 0, 0, 0, [613]),
  (516, .iconst 0, 1, 0, 0, 0, []),
  (517, .ireturn, 1, 0, 0, 1, []),
  (518, .aload_n 1, 1, 1, 0, 0, []),
  (519, .aload_n 0, 1, 0, 0, 0, []),
  (520, .iload_n 3, 1, 3, 0, 0, []),
  (521, .iconst 1, 1, 0, 0, 1, []),
  (522, .iadd, 1, 0, 0, 0, []),
  (523, .iaload, 1, 0, 0, 0, []),
  (524, .aload_n 0, 1, 0, 0, 0, []),
  (525, .iload_n 3, 1, 3, 0, 0, []),
  (526, .iconst 2, 1, 0, 0, 2, []),
  (527, .iadd, 1, 0, 0, 0, []),
  (528, .iaload, 1, 0, 0, 0, []),
  (529, .invokevirtual 72, 3, 38, 2, 6, []),
  (532, .aload_n 2, 1, 2, 0, 0, []),
  (533, .aload_n 0, 1, 0, 0, 0, []),
  (534, .iload_n 3, 1, 3, 0, 0, []),
  (535, .iconst 1, 1, 0, 0, 1, []),
  (536, .iadd, 1, 0, 0, 0, []),
  (537, .iaload, 1, 0, 0, 0, []),
  (538, .aload_n 0, 1, 0, 0, 0, []),
  (539, .iload_n 3, 1, 3, 0, 0, []),
  (540, .iconst 2, 1, 0, 0, 2, []),
  (541, .iadd, 1, 0, 0, 0, []),
  (542, .iaload, 1, 0, 0, 0, []),
  (543, .invokevirtual 75, 3, 127, 2, 7, []),
  (546, .if_icmp .eq 471, 3, 0, 0, 0, [613]),
  (549, .iconst 0, 1, 0, 0, 0, []),
  (550, .ireturn, 1, 0, 0, 1, []),
  (551, .aload_n 1, 1, 1, 0, 0, []),
  (552, .aload_n 0, 1, 0, 0, 0, []),
  (553, .iload_n 3, 1, 3, 0, 0, []),
  (554, .iconst 1, 1, 0, 0, 1, []),
  (555, .iadd, 1, 0, 0, 0, []),
  (556, .iaload, 1, 0, 0, 0, []),
  (557, .invokevirtual 76, 3, 39, 1, 6, []),
  (560, .aload_n 2, 1, 2, 0, 0, []),
  (561, .aload_n 0, 1, 0, 0, 0, []),
  (562, .iload_n 3, 1, 3, 0, 0, []),
  (563, .iconst 1, 1, 0, 0, 1, []),
  (564, .iadd, 1, 0, 0, 0, []),
  (565, .iaload, 1, 0, 0, 0, []),
  (566, .invokevirtual 79, 3, 128, 1, 7, []),
  (569, .if_icmp .eq 448, 3, 0, 0, 0, [613]),
  (572, .iconst 0, 1, 0, 0, 0, []),
  (573, .ireturn, 1, 0, 0, 1, []),
  (574, .aload_n 1, 1, 1, 0, 0, []),
  (575, .aload_n 0, 1, 0, 0, 0, []),
  (576, .iload_n 3, 1, 3, 0, 0, []),
  (577, .iconst 1, 1, 0, 0, 1, []),
  (578, .iadd, 1, 0, 0, 0, []),
  (579, .iaload, 1, 0, 0, 0, []),
  (580, .invokevirtual 80, 3, 40, 1, 6, []),
  (583, .aload_n 2, 1, 2, 0, 0, []),
  (584, .aload_n 0, 1, 0, 0, 0, []),
  (585, .iload_n 3, 1, 3, 0, 0, []),
  (586, .iconst 1, 1, 0, 0, 1, []),
  (587, .iadd, 1, 0, 0, 0, []),
  (588, .iaload, 1, 0, 0, 0, []),
  (589, .invokevirtual 83, 3, 130, 1, 7, []),
  (592, .if_icmp .eq 425, 3, 0, 0, 0, [613]),
  (595, .iconst 0, 1, 0, 0, 0, []),
  (596, .ireturn, 1, 0, 0, 1, []),
  (597, .aload_n 1, 1, 1, 0, 0, []),
  (598, .aload_n 0, 1, 0, 0, 0, []),
  (599, .iload_n 3, 1, 3, 0, 0, []),
  (600, .iconst 1, 1, 0, 0, 1, []),
  (601, .iadd, 1, 0, 0, 0, []),
  (602, .iaload, 1, 0, 0, 0, []),
  (603, .invokevirtual 84, 3, 41, 1, 6, []),
  (606, .aload_n 2, 1, 2, 0, 0, []),
  (607, .aload_n 0, 1, 0, 0, 0, []),
  (608, .iload_n 3, 1, 3, 0, 0, []),
  (609, .iconst 1, 1, 0, 0, 1, []),
  (610, .iadd, 1, 0, 0, 0, []),
  (611, .iaload, 1, 0, 0, 0, []),
  (612, .invokevirtual 87, 3, 132, 1, 7, []),
  (615, .if_icmp .eq 402, 3, 0, 0, 0, [613]),
  (618, .iconst 0, 1, 0, 0, 0, []),
  (619, .ireturn, 1, 0, 0, 1, []),
  (620, .aload_n 1, 1, 1, 0, 0, []),
  (621, .invokevirtual 88, 3, 42, 0, 6, []),
  (624, .aload_n 2, 1, 2, 0, 0, []),
  (625, .invokevirtual 91, 3, 134, 0, 7, []),
  (628, .if_icmp .eq 389, 3, 0, 0, 0, [613]),
  (631, .iconst 0, 1, 0, 0, 0, []),
  (632, .ireturn, 1, 0, 0, 1, []),
  (633, .aload_n 1, 1, 1, 0, 0, []),
  (634, .invokevirtual 92, 3, 43, 0, 6, []),
  (637, .aload_n 2, 1, 2, 0, 0, []),
  (638, .invokevirtual 95, 3, 135, 0, 7, []),
  (641, .if_icmp .eq 376, 3, 0, 0, 0, [613]),
  (644, .iconst 0, 1, 0, 0, 0, []),
  (645, .ireturn, 1, 0, 0, 1, []),
  (646, .aload_n 1, 1, 1, 0, 0, []),
  (647, .invokevirtual 96, 3, 44, 0, 6, []),
  (650, .aload_n 2, 1, 2, 0, 0, []),
  (651, .invokevirtual 99, 3, 136, 0, 7, []),
  (654, .if_icmp .eq 363, 3, 0, 0, 0, [613]),
  (657, .iconst 0, 1, 0, 0, 0, []),
  (658, .ireturn, 1, 0, 0, 1, []),
  (659, .aload_n 1, 1, 1, 0, 0, []),
  (660, .aload_n 0, 1, 0, 0, 0, []),
  (661, .iload_n 3, 1, 3, 0, 0, []),
  (662, .iconst 1, 1, 0, 0, 1, []),
  (663, .iadd, 1, 0, 0, 0, []),
  (664, .iaload, 1, 0, 0, 0, []),
  (665, .invokevirtual 100, 3, 45, 1, 6, []),
  (668, .aload_n 2, 1, 2, 0, 0, []),
  (669, .aload_n 0, 1, 0, 0, 0, []),
  (670, .iload_n 3, 1, 3, 0, 0, []),
  (671, .iconst 1, 1, 0, 0, 1, []),
  (672, .iadd, 1, 0, 0, 0, []),
  (673, .iaload, 1, 0, 0, 0, []),
  (674, .invokevirtual 103, 3, 137, 1, 7, []),
  (677, .if_icmp .eq 340, 3, 0, 0, 0, [613]),
  (680, .iconst 0, 1, 0, 0, 0, []),
  (681, .ireturn, 1, 0, 0, 1, []),
  (682, .aload_n 1, 1, 1, 0, 0, []),
  (683, .aload_n 0, 1, 0, 0, 0, []),
  (684, .iload_n 3, 1, 3, 0, 0, []),
  (685, .iconst 1, 1, 0, 0, 1, []),
  (686, .iadd, 1, 0, 0, 0, []),
  (687, .iaload, 1, 0, 0, 0, []),
  (688, .invokevirtual 104, 3, 46, 1, 6, []),
  (691, .aload_n 2, 1, 2, 0, 0, []),
  (692, .aload_n 0, 1, 0, 0, 0, []),
  (693, .iload_n 3, 1, 3, 0, 0, []),
  (694, .iconst 1, 1, 0, 0, 1, []),
  (695, .iadd, 1, 0, 0, 0, []),
  (696, .iaload, 1, 0, 0, 0, []),
  (697, .invokevirtual 107, 3, 138, 1, 7, []),
  (700, .if_icmp .eq 317, 3, 0, 0, 0, [613]),
  (703, .iconst 0, 1, 0, 0, 0, []),
  (704, .ireturn, 1, 0, 0, 1, []),
  (705, .aload_n 1, 1, 1, 0, 0, []),
  (706, .aload_n 0, 1, 0, 0, 0, []),
  (707, .iload_n 3, 1, 3, 0, 0, []),
  (708, .iconst 1, 1, 0, 0, 1, []),
  (709, .iadd, 1, 0, 0, 0, []),
  (710, .iaload, 1, 0, 0, 0, []),
  (711, .invokevirtual 108, 3, 47, 1, 6, []),
  (714, .aload_n 2, 1, 2, 0, 0, []),
  (715, .aload_n 0, 1, 0, 0, 0, []),
  (716, .iload_n 3, 1, 3, 0, 0, []),
  (717, .iconst 1, 1, 0, 0, 1, []),
  (718, .iadd, 1, 0, 0, 0, []),
  (719, .iaload, 1, 0, 0, 0, []),
  (720, .invokevirtual 111, 3, 139, 1, 7, []),
  (723, .if_icmp .eq 294, 3, 0, 0, 0, [613]),
  (726, .iconst 0, 1, 0, 0, 0, []),
  (727, .ireturn, 1, 0, 0, 1, []),
  (728, .aload_n 1, 1, 1, 0, 0, []),
  (729, .aload_n 0, 1, 0, 0, 0, []),
  (730, .iload_n 3, 1, 3, 0, 0, []),
  (731, .iconst 1, 1, 0, 0, 1, []),
  (732, .iadd, 1, 0, 0, 0, []),
  (733, .iaload, 1, 0, 0, 0, []),
  (734, .invokevirtual 112, 3, 48, 1, 6, []),
  (737, .aload_n 2, 1, 2, 0, 0, []),
  (738, .aload_n 0, 1, 0, 0, 0, []),
  (739, .iload_n 3, 1, 3, 0, 0, []),
  (740, .iconst 1, 1, 0, 0, 1, []),
  (741, .iadd, 1, 0, 0, 0, []),
  (742, .iaload, 1, 0, 0, 0, []),
  (743, .invokevirtual 115, 3, 140, 1, 7, []),
  (746, .if_icmp .eq 271, 3, 0, 0, 0, [613]),
  (749, .iconst 0, 1, 0, 0, 0, []),
  (750, .ireturn, 1, 0, 0, 1, []),
  (751, .aload_n 1, 1, 1, 0, 0, []),
  (752, .aload_n 0, 1, 0, 0, 0, []),
  (753, .iload_n 3, 1, 3, 0, 0, []),
  (754, .iconst 1, 1, 0, 0, 1, []),
  (755, .iadd, 1, 0, 0, 0, []),
  (756, .iaload, 1, 0, 0, 0, []),
  (757, .invokevirtual 116, 3, 49, 1, 6, []),
  (760, .aload_n 2, 1, 2, 0, 0, []),
  (761, .aload_n 0, 1, 0, 0, 0, []),
  (762, .iload_n 3, 1, 3, 0, 0, []),
  (763, .iconst 1, 1, 0, 0, 1, []),
  (764, .iadd, 1, 0, 0, 0, []),
  (765, .iaload, 1, 0, 0, 0, []),
  (766, .invokevirtual 119, 3, 142, 1, 7, []),
  (769, .if_icmp .eq 248, 3, 0, 0, 0, [613]),
  (772, .iconst 0, 1, 0, 0, 0, []),
  (773, .ireturn, 1, 0, 0, 1, []),
  (774, .aload_n 1, 1, 1, 0, 0, []),
  (775, .aload_n 0, 1, 0, 0, 0, []),
  (776, .iload_n 3, 1, 3, 0, 0, []),
  (777, .iconst 1, 1, 0, 0, 1, []),
  (778, .iadd, 1, 0, 0, 0, []),
  (779, .iaload, 1, 0, 0, 0, []),
  (780, .aload_n 0, 1, 0, 0, 0, []),
  (781, .iload_n 3, 1, 3, 0, 0, []),
  (782, .iconst 2, 1, 0, 0, 2, []),
  (783, .iadd, 1, 0, 0, 0, []),
  (784, .iaload, 1, 0, 0, 0, []),
  (785, .invokevirtual 120, 3, 50, 2, 6, []),
  (788, .aload_n 2, 1, 2, 0, 0, []),
  (789, .aload_n 0, 1, 0, 0, 0, []),
  (790, .iload_n 3, 1, 3, 0, 0, []),
  (791, .iconst 1, 1, 0, 0, 1, []),
  (792, .iadd, 1, 0, 0, 0, []),
  (793, .iaload, 1, 0, 0, 0, []),
  (794, .aload_n 0, 1, 0, 0, 0, []),
  (795, .iload_n 3, 1, 3, 0, 0, []),
  (796, .iconst 2, 1, 0, 0, 2, []),
  (797, .iadd, 1, 0, 0, 0, []),
  (798, .iaload, 1, 0, 0, 0, []),
  (799, .invokevirtual 123, 3, 143, 2, 7, []),
  (802, .if_icmp .eq 215, 3, 0, 0, 0, [613]),
  (805, .iconst 0, 1, 0, 0, 0, []),
  (806, .ireturn, 1, 0, 0, 1, []),
  (807, .aload_n 1, 1, 1, 0, 0, []),
  (808, .aload_n 0, 1, 0, 0, 0, []),
  (809, .iload_n 3, 1, 3, 0, 0, []),
  (810, .iconst 1, 1, 0, 0, 1, []),
  (811, .iadd, 1, 0, 0, 0, []),
  (812, .iaload, 1, 0, 0, 0, []),
  (813, .aload_n 0, 1, 0, 0, 0, []),
  (814, .iload_n 3, 1, 3, 0, 0, []),
  (815, .iconst 2, 1, 0, 0, 2, []),
  (816, .iadd, 1, 0, 0, 0, []),
  (817, .iaload, 1, 0, 0, 0, []),
  (818, .invokevirtual 124, 3, 51, 2, 6, []),
  (821, .aload_n 2, 1, 2, 0, 0, []),
  (822, .aload_n 0, 1, 0, 0, 0, []),
  (823, .iload_n 3, 1, 3, 0, 0, []),
  (824, .iconst 1, 1, 0, 0, 1, []),
  (825, .iadd, 1, 0, 0, 0, []),
  (826, .iaload, 1, 0, 0, 0, []),
  (827, .aload_n 0, 1, 0, 0, 0, []),
  (828, .iload_n 3, 1, 3, 0, 0, []),
  (829, .iconst 2, 1, 0, 0, 2, []),
  (830, .iadd, 1, 0, 0, 0, []),
  (831, .iaload, 1, 0, 0, 0, []),
  (832, .invokevirtual 127, 3, 144, 2, 7, []),
  (835, .if_icmp .eq 182, 3, 0, 0, 0, [613]),
  (838, .iconst 0, 1, 0, 0, 0, []),
  (839, .ireturn, 1, 0, 0, 1, []),
  (840, .aload_n 1, 1, 1, 0, 0, []),
  (841, .aload_n 0, 1, 0, 0, 0, []),
  (842, .iload_n 3, 1, 3, 0, 0, []),
  (843, .iconst 1, 1, 0, 0, 1, []),
  (844, .iadd, 1, 0, 0, 0, []),
  (845, .iaload, 1, 0, 0, 0, []),
  (846, .invokevirtual 128, 3, 52, 1, 6, []),
  (849, .aload_n 2, 1, 2, 0, 0, []),
  (850, .aload_n 0, 1, 0, 0, 0, []),
  (851, .iload_n 3, 1, 3, 0, 0, []),
  (852, .iconst 1, 1, 0, 0, 1, []),
  (853, .iadd, 1, 0, 0, 0, []),
  (854, .iaload, 1, 0, 0, 0, []),
  (855, .invokevirtual 131, 3, 145, 1, 7, []),
  (858, .if_icmp .eq 159, 3, 0, 0, 0, [613]),
  (861, .iconst 0, 1, 0, 0, 0, []),
  (862, .ireturn, 1, 0, 0, 1, []),
  (863, .aload_n 1, 1, 1, 0, 0, []),
  (864, .invokevirtual 132, 3, 53, 0, 6, []),
  (867, .aload_n 2, 1, 2, 0, 0, []),
  (868, .invokevirtual 135, 3, 147, 0, 7, []),
  (871, .if_icmp .eq 146, 3, 0, 0, 0, [613]),
  (874, .iconst 0, 1, 0, 0, 0, []),
  (875, .ireturn, 1, 0, 0, 1, []),
  (876, .aload_n 1, 1, 1, 0, 0, []),
  (877, .invokevirtual 136, 3, 54, 0, 6, []),
  (880, .aload_n 2, 1, 2, 0, 0, []),
  (881, .invokevirtual 139, 3, 148, 0, 7, []),
  (884, .if_icmp .eq 133, 3, 0, 0, 0, [613]),
  (887, .iconst 0, 1, 0, 0, 0, []),
  (888, .ireturn, 1, 0, 0, 1, []),
  (889, .aload_n 1, 1, 1, 0, 0, []),
  (890, .aload_n 0, 1, 0, 0, 0, []),
  (891, .iload_n 3, 1, 3, 0, 0, []),
  (892, .iconst 1, 1, 0, 0, 1, []),
  (893, .iadd, 1, 0, 0, 0, []),
  (894, .iaload, 1, 0, 0, 0, []),
  (895, .aload_n 0, 1, 0, 0, 0, []),
  (896, .iload_n 3, 1, 3, 0, 0, []),
  (897, .iconst 2, 1, 0, 0, 2, []),
  (898, .iadd, 1, 0, 0, 0, []),
  (899, .iaload, 1, 0, 0, 0, []),
  (900, .invokevirtual 140, 3, 55, 2, 6, []),
  (903, .aload_n 2, 1, 2, 0, 0, []),
  (904, .aload_n 0, 1, 0, 0, 0, []),
  (905, .iload_n 3, 1, 3, 0, 0, []),
  (906, .iconst 1, 1, 0, 0, 1, []),
  (907, .iadd, 1, 0, 0, 0, []),
  (908, .iaload, 1, 0, 0, 0, []),
  (909, .aload_n 0, 1, 0, 0, 0, []),
  (910, .iload_n 3, 1, 3, 0, 0, []),
  (911, .iconst 2, 1, 0, 0, 2, []),
  (912, .iadd, 1, 0, 0, 0, []),
  (913, .iaload, 1, 0, 0, 0, []),
  (914, .invokevirtual 143, 3, 149, 2, 7, []),
  (917, .if_icmp .eq 100, 3, 0, 0, 0, [613]),
  (920, .iconst 0, 1, 0, 0, 0, []),
  (921, .ireturn, 1, 0, 0, 1, []),
  (922, .aload_n 1, 1, 1, 0, 0, []),
  (923, .invokevirtual 144, 3, 56, 0, 6, []),
  (926, .aload_n 2, 1, 2, 0, 0, []),
  (927, .invokevirtual 147, 3, 150, 0, 7, []),
  (930, .if_icmp .eq 87, 3, 0, 0, 0, [613]),
  (933, .iconst 0, 1, 0, 0, 0, []),
  (934, .ireturn, 1, 0, 0, 1, []),
  (935, .aload_n 1, 1, 1, 0, 0, []),
  (936, .invokevirtual 148, 3, 57, 0, 6, []),
  (939, .aload_n 2, 1, 2, 0, 0, []),
  (940, .invokevirtual 151, 3, 151, 0, 7, []),
  (943, .if_icmp .eq 74, 3, 0, 0, 0, [613]),
  (946, .iconst 0, 1, 0, 0, 0, []),
  (947, .ireturn, 1, 0, 0, 1, []),
  (948, .aload_n 1, 1, 1, 0, 0, []),
  (949, .aload_n 0, 1, 0, 0, 0, []),
  (950, .iload_n 3, 1, 3, 0, 0, []),
  (951, .iconst 1, 1, 0, 0, 1, []),
  (952, .iadd, 1, 0, 0, 0, []),
  (953, .iaload, 1, 0, 0, 0, []),
  (954, .invokevirtual 152, 3, 58, 1, 6, []),
  (957, .aload_n 2, 1, 2, 0, 0, []),
  (958, .aload_n 0, 1, 0, 0, 0, []),
  (959, .iload_n 3, 1, 3, 0, 0, []),
  (960, .iconst 1, 1, 0, 0, 1, []),
  (961, .iadd, 1, 0, 0, 0, []),
  (962, .iaload, 1, 0, 0, 0, []),
  (963, .invokevirtual 155, 3, 152, 1, 7, []),
  (966, .if_icmp .eq 51, 3, 0, 0, 0, [613]),
  (969, .iconst 0, 1, 0, 0, 0, []),
  (970, .ireturn, 1, 0, 0, 1, []),
  (971, .aload_n 1, 1, 1, 0, 0, []),
  (972, .aload_n 0, 1, 0, 0, 0, []),
  (973, .iload_n 3, 1, 3, 0, 0, []),
  (974, .iconst 1, 1, 0, 0, 1, []),
  (975, .iadd, 1, 0, 0, 0, []),
  (976, .iaload, 1, 0, 0, 0, []),
  (977, .invokevirtual 156, 3, 59, 1, 6, []),
  (980, .aload_n 2, 1, 2, 0, 0, []),
  (981, .aload_n 0, 1, 0, 0, 0, []),
  (982, .iload_n 3, 1, 3, 0, 0, []),
  (983, .iconst 1, 1, 0, 0, 1, []),
  (984, .iadd, 1, 0, 0, 0, []),
  (985, .iaload, 1, 0, 0, 0, []),
  (986, .invokevirtual 159, 3, 153, 1, 7, []),
  (989, .if_icmp .eq 28, 3, 0, 0, 0, [613]),
  (992, .iconst 0, 1, 0, 0, 0, []),
  (993, .ireturn, 1, 0, 0, 1, []),
  (994, .aload_n 1, 1, 1, 0, 0, []),
  (995, .aload_n 0, 1, 0, 0, 0, []),
  (996, .iload_n 3, 1, 3, 0, 0, []),
  (997, .iconst 1, 1, 0, 0, 1, []),
  (998, .iadd, 1, 0, 0, 0, []),
  (999, .iaload, 1, 0, 0, 0, []),
  (1000, .invokevirtual 160, 3, 60, 1, 6, []),
  (1003, .aload_n 2, 1, 2, 0, 0, []),
  (1004, .aload_n 0, 1, 0, 0, 0, []),
  (1005, .iload_n 3, 1, 3, 0, 0, []),
  (1006, .iconst 1, 1, 0, 0, 1, []),
  (1007, .iadd, 1, 0, 0, 0, []),
  (1008, .iaload, 1, 0, 0, 0, []),
  (1009, .invokevirtual 163, 3, 154, 1, 7, []),
  (1012, .if_icmp .eq 5, 3, 0, 0, 0, [613]),
  (1015, .iconst 0, 1, 0, 0, 0, []),
  (1016, .ireturn, 1, 0, 0, 1, []),
  (1017, .iinc 3 3, 3, 3, 0, 3, []),
  (1020, .goto (-1002), 3, 0, 0, 0, [2]),
  (1023, .iconst 1, 1, 0, 0, 1, []),
  (1024, .ireturn, 1, 0, 0, 1, [])]
theorem dL_0 : decode code 0 = .ok (.new 7, 3) := by decide +kernel
theorem dL_3 : decode code 3 = .ok (.dup, 1) := by decide +kernel
theorem dL_4 : decode code 4 = .ok (.invokespecial 9, 3) := by decide +kernel
theorem dL_7 : decode code 7 = .ok (.astore_n 1, 1) := by decide +kernel
theorem dL_8 : decode code 8 = .ok (.new 10, 3) := by decide +kernel
theorem dL_11 : decode code 11 = .ok (.dup, 1) := by decide +kernel
theorem dL_12 : decode code 12 = .ok (.invokespecial 12, 3) := by decide +kernel
theorem dL_15 : decode code 15 = .ok (.astore_n 2, 1) := by decide +kernel
/-- one instruction of the law: the script is the cell 200, outside the world -/
def jxL (O : jO) (N : Nat) (K : Nat → jSh) (Ls : Nat) (xs : Nat → Int32) (G : jG) (Qr : Option Value → jM → Prop) (q : jI) (k : Nat) (L : List (Option Value)) (st : List Value) (x : jM) : Prop := match q.2.1 with
  | .iaload => jpI st (fun i r => jpA r (fun o r => o = 200 ∧ vp_in i Ls ∧ G (k + 1) L (.int (xs i.toNatClampNeg) :: r) x))
  | .arraylength => jpA st (fun o r => o = 200 ∧ G (k + 1) L (.int (nI Ls) :: r) x)
  | _ => jx O N K G Qr q k L st x
def jwpL (O : jO) (N : Nat) (K : Nat → jSh) (Ls : Nat) (xs : Nat → Int32) (code : List jI) (Qr : Option Value → jM → Prop) : Nat → Nat → List (Option Value) → List Value → jM → Prop
  | 0, _, _, _, _ => False
  | n + 1, k, L, st, x => match code[k]? with
    | none => False
    | some q => jxL O N K Ls xs (fun k L st x => jwpL O N K Ls xs code Qr n k L st x) Qr q k L st x
def jokL (code : List jI) (k : Nat) (q : jI) : Bool := match q with
  | (pc, i, len, a, b, cv, ts) => match i with
    | .iaload => len == 1 && jnx code (k + 1) (pc + 1)
    | .arraylength => len == 1 && jnx code (k + 1) (pc + 1)
    | i => jok2 9 (some .boolean) 9 302 code k (pc, i, len, a, b, cv, ts)
def jchL (cc : ByteArray) (code : List jI) (a n : Nat) : Bool := (List.range n).all (fun k => match code[a + k]? with
  | some q => decide (decode cc q.1 = .ok (q.2.1, q.2.2.1)) && jokL code (a + k) q
  | none => true)
theorem jchL_0 : jchL code kL 0 50 = true := by decide +kernel
theorem jchL_1 : jchL code kL 50 50 = true := by decide +kernel
theorem jchL_2 : jchL code kL 100 50 = true := by decide +kernel
theorem jchL_3 : jchL code kL 150 50 = true := by decide +kernel
theorem jchL_4 : jchL code kL 200 50 = true := by decide +kernel
theorem jchL_5 : jchL code kL 250 50 = true := by decide +kernel
theorem jchL_6 : jchL code kL 300 50 = true := by decide +kernel
theorem jchL_7 : jchL code kL 350 50 = true := by decide +kernel
theorem jchL_8 : jchL code kL 400 50 = true := by decide +kernel
theorem jchL_9 : jchL code kL 450 50 = true := by decide +kernel
theorem jchL_10 : jchL code kL 500 50 = true := by decide +kernel
theorem jchL_11 : jchL code kL 550 50 = true := by decide +kernel
theorem jchL_12 : jchL code kL 600 50 = true := by decide +kernel
theorem jchL_at {k : Nat} {q : jI} (h : kL[k]? = some q) : decode code q.1 = .ok (q.2.1, q.2.2.1) ∧ jokL kL k q = true := by
  have key : ∀ d, d ≤ k → k < d + 50 → jchL code kL d 50 = true → decode code q.1 = .ok (q.2.1, q.2.2.1) ∧ jokL kL k q = true := by
    intro d h1 h2 hall
    have := List.all_eq_true.mp hall (k - d) (List.mem_range.mpr (by omega))
    rw [show d + (k - d) = k by omega, h] at this
    simpa using this
  have hl : k < kL.length := (List.getElem?_eq_some_iff.mp h).1
  have hn : kL.length = 617 := by decide +kernel
  rcases (show (0 ≤ k ∧ k < 50) ∨ (50 ≤ k ∧ k < 100) ∨ (100 ≤ k ∧ k < 150) ∨ (150 ≤ k ∧ k < 200) ∨ (200 ≤ k ∧ k < 250) ∨ (250 ≤ k ∧ k < 300) ∨ (300 ≤ k ∧ k < 350) ∨ (350 ≤ k ∧ k < 400) ∨ (400 ≤ k ∧ k < 450) ∨ (450 ≤ k ∧ k < 500) ∨ (500 ≤ k ∧ k < 550) ∨ (550 ≤ k ∧ k < 600) ∨ (600 ≤ k ∧ k < 650) by omega) with h1 | h1 | h1 | h1 | h1 | h1 | h1 | h1 | h1 | h1 | h1 | h1 | h1
  · exact key 0 h1.1 (by omega) jchL_0
  · exact key 50 h1.1 (by omega) jchL_1
  · exact key 100 h1.1 (by omega) jchL_2
  · exact key 150 h1.1 (by omega) jchL_3
  · exact key 200 h1.1 (by omega) jchL_4
  · exact key 250 h1.1 (by omega) jchL_5
  · exact key 300 h1.1 (by omega) jchL_6
  · exact key 350 h1.1 (by omega) jchL_7
  · exact key 400 h1.1 (by omega) jchL_8
  · exact key 450 h1.1 (by omega) jchL_9
  · exact key 500 h1.1 (by omega) jchL_10
  · exact key 550 h1.1 (by omega) jchL_11
  · exact key 600 h1.1 (by omega) jchL_12
end
section
section LW
variable {p : Program} {l : Launch} {e : Env} {s : State} {m : MethodId} {below : List Frame} {meth : Method} {c : Code} {cells slots : Nat} {Q : State → Prop}
variable {D : va_G} {cy : Nat → ClassId} {ad : Nat → Nat} {N : Nat} {K : Nat → jSh} {A : Nat → Prop} {Ts : List Cond} {b Ls : Nat} {xs : Nat → Int32}
theorem jrunL {O : jO} {Qr : Option Value → jM → Prop} (E : jE p room_1 s m #[Value.ref b] c cells slots code D cy 4 A (jcn 9) Ts)
    (hO : ∀ (a : Nat) (r : jR), jMt[a]? = some r → jMet l r.1 (.code r.1 r.2.1 r.2.2.1 r.2.2.2.1 :: jt) (jrm r) N K (O a))
    (hX : va_X b Ls xs s s.heap) (hbl : b < s.heap.size) (hbA : ¬ A b) (hab : ad 200 = b)
    (hI : ∀ (v : Int32) (pc' : Nat) (L' : List (Option Value)) (x' : jM), decode code pc' = .ok (.ireturn, 1) → Qr (some (.int v)) x' → jT p l e room_1 s m #[Value.ref b] below meth c cells slots Q D cy ad N 4 K A pc' L' [.int v] x') :
    ∀ (n k pc : Nat) (L : List (Option Value)) (st : List Value) (x : jM), jnx kL k pc = true → jwpL O N K Ls xs kL Qr n k L st x → jT p l e room_1 s m #[Value.ref b] below meth c cells slots Q D cy ad N 4 K A pc L st x := by
  intro n
  induction n with
  | zero => intro k pc L st x _ h; exact False.elim h
  | succ n ih =>
    intro k pc L st x hn h
    unfold jnx at hn
    split at hn
    · next q hq =>
      simp only [beq_iff_eq] at hn
      unfold jwpL at h
      rw [hq] at h
      rw [← hn]
      obtain ⟨hd, hok⟩ := jchL_at hq
      have gen : jok2 9 (some .boolean) 9 302 kL k q = true → jx O N K (fun k L st x => jwpL O N K Ls xs kL Qr n k L st x) Qr q k L st x → jT p l e room_1 s m #[Value.ref b] below meth c cells slots Q D cy ad N 4 K A q.1 L st x := by
        intro hk hx
        refine jx_ok (ret := some .boolean) E hO (by simp only [jok, Bool.and_eq_true, decide_eq_true_eq]; exact ⟨hd, hk⟩) (fun k' pc' L' st' x' h1 h2 => ih k' pc' L' st' x' h1 h2) (fun v pc' L' x' h1 _ h2 => hI v pc' L' x' h1 h2) (fun pc' L' x' _ h2 _ => by cases h2) hx
      obtain ⟨pc0, i, len, a, b', cv, ts⟩ := q
      cases i with
      | iaload =>
        simp only [jokL, Bool.and_eq_true, beq_iff_eq] at hok
        obtain ⟨rfl, h1⟩ := hok
        obtain ⟨i, r0, rfl, h5⟩ := jpI_spec h
        obtain ⟨o, r, rfl, ho, hin, h6⟩ := jpA_spec h5
        subst ho
        intro H locs ls g1 g2 g3 g4
        show W p l e room_1 s m #[Value.ref b] below meth c H locs cells slots Q (F0 m pc0 ls (.int i :: .ref (ad 200) :: r.map (jv ad)))
        rw [hab]
        exact va_sld E.1 E.2.1 hX hbl hbA g3 hin hd (ih _ _ _ _ _ h1 h6 H locs ls g1 g2 g3 g4)
      | arraylength =>
        simp only [jokL, Bool.and_eq_true, beq_iff_eq] at hok
        obtain ⟨rfl, h1⟩ := hok
        obtain ⟨o, r, rfl, ho, h6⟩ := jpA_spec h
        subst ho
        intro H locs ls g1 g2 g3 g4
        show W p l e room_1 s m #[Value.ref b] below meth c H locs cells slots Q (F0 m pc0 ls (.ref (ad 200) :: r.map (jv ad)))
        rw [hab]
        exact va_slen E.1 E.2.1 hX hbl hbA g3 hd (ih _ _ _ _ _ h1 h6 H locs ls g1 g2 g3 g4)
      | _ => exact gen hok h
    · cases hn
theorem jc_dup {own : String} {R : Room} {args : Array Value} {cc : ByteArray} {nL pc N0 u w : Nat} {ad0 : Nat → Nat} {L : List (Option Value)} {st : List Value} {M : jM2} {v : Value} (E : jE2 p R s m args c cc D cy nL A own Ts) (hu : u ≤ R.cells) (hw : w ≤ R.slots) (hd : decode cc pc = .ok (.dup, 1)) (hv : v.category = 1)
    (k : jT2 p l e R s m args below meth c Q D cy nL A N0 ad0 (pc + 1) L (v :: v :: st) M u w) : jT2 p l e R s m args below meth c Q D cy nL A N0 ad0 pc L (v :: st) M u w := fun ad hag hN hwf hL hS => js_dup (E.1 u w hu hw) hd hv (k ad hag hN hwf hL (fun j hj => hS j (by
    rcases List.mem_cons.mp hj with h | h
    · exact h ▸ List.mem_cons_self
    · exact h)))
end LW
theorem jNs_in : ∀ q ∈ jNt, Cond.methodLinkNest (jcn q.1) q.2.1 ⟨jcn q.2.2, "<init>", "()V"⟩ RX6 ∈ lw_tbl := by decide +kernel
theorem jao_in : Cond.arrayOver (.object RX2) ∈ lw_tbl ∧ Cond.arrayOver (.object RX5) ∈ lw_tbl := by decide +kernel
theorem jins_in : ∀ a, a < 8 → Cond.instantiable (jcn a) (jfc a) ∈ lw_tbl := by
  intro a ha
  obtain ⟨r, z, hr, -⟩ := jCt_ok a ha
  exact (List.mem_filter.mp (jCt_words hr).2.2.2.2.2.2.2.2.1).1
/-- THE LAW, out of what its loop needs of the step predicates -/
theorem law_start {p : Program} {e : Env} {s : State} {m : MethodId} {below : List Frame} {meth : Method} {c : Code} (l : Launch) {b L : Nat} {xs : Nat → Int32} (C0 : lw_At p s m meth c b L xs) (d : Nat)
    (hp : ∃ n, jwpL (jOl 136 jK d) 136 jK L xs kL (fun r _ => r = some (.int 1)) n 0 [some (.ref 200), some (.ref 0), some (.ref 121), none] [] jx0) : W p l e room_1 s m #[Value.ref b] below meth c s.heap [] 0 0 (lw_Z below #[Value.ref b] s) (entryFrame m ([Value.ref b] : List Value).toArray 4) := by
  obtain ⟨hx, hb, hr, hml, hown, hts, hX, hbl, hlocks, hgv⟩ := id C0
  obtain ⟨n, hp⟩ := hp
  have hA : ∀ q : Nat, s.heap.size ≤ q → (fun q : Nat => s.heap.size ≤ q) q := fun _ h => h
  have hbA : ¬ (fun q : Nat => s.heap.size ≤ q) b := Nat.not_le.mpr hbl
  have hkn : ∀ (k : Nat) (q : vw_C), vwCl[k]? = some q → ∃ (cC : ClassId) (iS : Nat → Nat), u_Kn s q.1 q.2.1 q.2.2 cC iS := by
    intro k q hq
    have hk := vwCl_lt hq
    obtain ⟨r, z, hr, -⟩ := jCt_ok k hk
    obtain ⟨-, -, -, -, -, -, -, -, w2, q', hq', e1, e2⟩ := jCt_words hr
    rw [hq] at hq'
    cases hq'
    exact u_known hts (fun w h => (List.mem_filter.mp ((jcl_ok k q hq).1 w h)).1) (n := jfc k) (by rw [e1]; exact hts _ (jins_in k hk))
  obtain ⟨dC, dI, hKc⟩ : ∃ (dC : Nat → ClassId) (dI : Nat → Nat → Nat), ∀ (k : Nat) (q : vw_C), vwCl[k]? = some q → u_Kn s q.1 q.2.1 q.2.2 (dC k) (dI k) := by
    have h2 : ∀ k : Nat, ∃ (cC : ClassId) (iS : Nat → Nat), ∀ q, vwCl[k]? = some q → u_Kn s q.1 q.2.1 q.2.2 cC iS := by
      intro k
      cases hq : vwCl[k]? with
      | none => exact ⟨0, fun _ => 0, fun q h => by cases h⟩
      | some q =>
        obtain ⟨cC, iS, h⟩ := hkn k q hq
        exact ⟨cC, iS, fun q' h' => by cases h'; exact h⟩
    exact ⟨fun k => (h2 k).choose, fun k => (h2 k).choose_spec.choose, fun k q hq => (h2 k).choose_spec.choose_spec q hq⟩
  obtain ⟨c8, k8, m8, f8, g8, i8⟩ := Cond.arrayClass_spec (hts (.arrayClass .int) (List.mem_filter.mp jarc.1).1)
  obtain ⟨c9, k9, m9, f9, g9, i9⟩ := Cond.arrayClass_spec (hts (.arrayClass .boolean) (List.mem_filter.mp jarc.2).1)
  obtain ⟨m10, c10, k10, a10, b10, g10, i10, f10⟩ := Cond.arrayOver_spec (hts (.arrayOver (.object RX2)) jao_in.1)
  obtain ⟨m11, c11, k11, a11, b11, g11, i11, f11⟩ := Cond.arrayOver_spec (hts (.arrayOver (.object RX5)) jao_in.2)
  obtain ⟨cy, hcy⟩ : ∃ cy : Nat → ClassId, cy 8 = c8 ∧ cy 9 = c9 ∧ cy 10 = c10 ∧ cy 11 = c11 := ⟨fun k => if k = 8 then c8 else if k = 9 then c9 else if k = 10 then c10 else c11, by simp⟩
  obtain ⟨rfl, rfl, rfl, rfl⟩ := hcy
  have hK : va_K (dC, dI) vwCl (jty cy) s := by
    refine ⟨hKc, fun k q h => ?_⟩
    match k, h with
    | 0, h => cases h; exact ⟨fun n z => ⟨fun k h => (by cases h), k8, g8, m8, i8⟩, f8⟩
    | 1, h => cases h; exact ⟨fun n z => ⟨fun k h => (by cases h), k9, g9, m9, i9⟩, f9⟩
    | 2, h => cases h; exact ⟨fun n z => ⟨fun k h => (by cases h), k10, g10, m10, i10⟩, k10, m10, g10, i10, a10, f10⟩
    | 3, h => cases h; exact ⟨fun n z => ⟨fun k h => (by cases h), k11, g11, m11, i11⟩, k11, m11, g11, i11, a11, f11⟩
    | k + 4, h => simp [jty] at h
  have hNw : jNw s := ⟨fun q hq => va_Nw.of rfl (hts _ (jNs_in q hq)), va_AO.of (hts _ jao_in.1), va_AO.of (hts _ jao_in.2)⟩
  have E : jE2 p room_1 s m #[Value.ref b] c code (dC, dI) cy 4 (fun q : Nat => s.heap.size ≤ q) (jcn 9) lw_tbl := ⟨fun u w hu hw => ⟨hx, hb, hml, hown, hts, hK, hA, fun w h => (List.mem_filter.mp h).1, hu, hw⟩, hNw⟩
  obtain ⟨⟨N2, K2, x2⟩, M4, hM2, e2, hM4, e4, hsame⟩ := jin
  have e2 : N2 = 121 := e2
  subst e2
  have main : jT2 p l e room_1 s m #[Value.ref b] below meth c (lw_Z below #[Value.ref b] s) (dC, dI) cy 4 (fun q : Nat => s.heap.size ≤ q) 0 (fun _ => b) 0 [some (.ref 200), none, none, none] [] (0, (fun _ => (0, 0, fun _ => 0)), fun _ _ => 0) 0 0 := by
    obtain ⟨r6, z6, hr6, -⟩ := jCt_ok 6 (by decide)
    obtain ⟨-, w5, w4, hd0, -, w2, hnm, hcl, w6, q6, hq6, hq61, hq62⟩ := jCt_words hr6
    obtain ⟨r7, z7, hr7, -⟩ := jCt_ok 7 (by decide)
    obtain ⟨-, v5, v4, vd0, -, v2, vnm, vcl, v6, q7, hq7, hq71, hq72⟩ := jCt_words hr7
    refine jc_new (a := 6) E hq6 hq62 (by rw [hq61]; exact jQl_in (by decide +kernel)) (by rw [hq61]; exact w6) (by rw [hq61, ← hcl]; exact w4) (by decide) (by decide +kernel) (by decide +kernel) dL_0 ?_
    refine jc_dup E (by decide +kernel) (by decide +kernel) dL_3 rfl ?_
    cases hr6
    refine jc_call E (jctor l 9 6 _ rfl) w5 w4 w2 hnm hd0 (by decide +kernel) (Or.inl (jIl_in (a := 6) (own := 9) (by decide +kernel) rfl)) (by decide +kernel) (by decide +kernel) (by decide +kernel) dL_4 hM2 ?_
    refine jc_astore (a := 1) E (by decide +kernel) (by decide +kernel) dL_7 rfl (by decide +kernel) ?_
    refine jc_new (a := 7) E hq7 hq72 (by rw [hq71]; exact jQl_in (by decide +kernel)) (by rw [hq71]; exact v6) (by rw [hq71, ← vcl]; exact v4) (by decide) (by decide +kernel) (by decide +kernel) dL_8 ?_
    refine jc_dup E (by decide +kernel) (by decide +kernel) dL_11 rfl ?_
    cases hr7
    refine jc_call E (jctor l 9 7 _ rfl) v5 v4 v2 vnm vd0 (by decide +kernel) (Or.inl (jIl_in (a := 7) (own := 9) (by decide +kernel) rfl)) (by decide +kernel) (by decide +kernel) (by decide +kernel) dL_12 hM4 ?_
    obtain ⟨N4, K4, x4⟩ := M4
    have e4 : N4 = 136 := e4
    subst e4
    refine jc_astore (a := 2) E (by decide +kernel) (by decide +kernel) dL_15 rfl (by decide +kernel) ?_
    intro ad hag hN hwf hL hS H locs ls h1 h2 h3 h4
    refine jrunL (E.1 _ _ (by decide +kernel) (by decide +kernel)) (jall l 136 jK d) hX hbl hbA (hag 200 (Or.inr rfl)) ?_ n 0 16 _ _ jx0 (by decide +kernel) hp H locs ls (jW_same hsame h1) (jD_same h2) h3 h4
    intro v pc' L' x' hd hv H locs ls g1 g2 g3 g4
    cases hv
    refine va_forget (fun q hq => g3.2.2 q hq) ?_
    refine W.widen (k := 600000) (n := 7302250) (by decide +kernel) (by decide +kernel) ?_
    exact lw_ret hx hb hr hlocks hd
  have e0 : ([Value.ref b] : List Value) = [Value.ref 200].map (jv (fun _ => b)) := rfl
  rw [e0, lg_entry_eq]
  exact main (fun _ => b) (fun _ _ => rfl) (Nat.le_refl _) (fun i k j h => absurd h (Nat.not_lt_zero i)) (fun i j hj => by
    match i, hj with
    | 0, hj => cases hj; exact Or.inr rfl
    | 1, hj => cases hj
    | 2, hj => cases hj
    | 3, hj => cases hj
    | i + 4, hj => simp at hj) (fun j hj => absurd hj List.not_mem_nil) s.heap [] _ (fun k q h => by simp [jW] at h) ⟨fun i j p q h => by simp [jW] at h, fun k q h => by simp [jW] at h⟩ va_S.rf (jL_entry (as := [.ref 200]) (n := 4) (by decide))
end
section
/-! PLACES WITHOUT COUNTING STEPS: jw, and how a place is unfolded -/
theorem jgI_i {L : List (Option Value)} {j : Nat} {v : Int32} {g : Int32 → Prop} (h : L[j]? = some (some (.int v))) (hg : g v) : jgI L j g := by unfold jgI; rw [h]; exact hg
theorem jgL_i {L : List (Option Value)} {j : Nat} {v : Int64} {g : Int64 → Prop} (h : L[j]? = some (some (.long v))) (hg : g v) : jgL L j g := by unfold jgL; rw [h]; exact hg
theorem jgA_i {L : List (Option Value)} {j v : Nat} {g : Nat → Prop} (h : L[j]? = some (some (.ref v))) (hg : g v) : jgA L j g := by unfold jgA; rw [h]; exact hg
theorem jB_i {b : Bool} {P : Prop} (h : b = true) (hp : P) : jB b P := by rw [h]; exact hp
theorem jrk_0 {k : Nat} {g0 : Prop} {g : Nat → Prop} (h : k = 0) (hg : g0) : jrk k g0 g := by rw [h]; exact hg
theorem jrk_r {k j : Nat} {g0 : Prop} {g : Nat → Prop} (h : k = j + 2) (hg : g j) : jrk k g0 g := by rw [h]; exact hg
theorem jif_not {cd : ClassFile.Cond} {v : Int32} (h : jif cd v) : ¬ jnf cd v := by cases cd <;> simp_all [jif, jnf]
theorem jif_or {cd : ClassFile.Cond} {v : Int32} (h : ¬ jif cd v) : jnf cd v := by cases cd <;> simp_all [jif, jnf]
theorem jic_not {cd : ClassFile.Cond} {v y : Int32} (h : jic cd v y) : ¬ jnc cd v y := by cases cd <;> simp_all [jic, jnc]
theorem jic_or {cd : ClassFile.Cond} {v y : Int32} (h : ¬ jic cd v y) : jnc cd v y := by cases cd <;> simp_all [jic, jnc]
theorem jsw_cn {v : Int} {G : Nat → Prop} {G' : Nat → Nat → Prop} {d : Nat} (hG : ∀ t, G t → ∃ m, G' m t) : ∀ {l : List (Int × Nat)}, jsw v G d l → ∃ m, jsw v (G' m) d l
  | [], h => hG d h
  | q :: r, h => by
    by_cases hv : v = q.1
    · obtain ⟨m, hm⟩ := hG _ (h.1 hv)
      exact ⟨m, fun _ => hm, fun h => absurd hv h⟩
    · obtain ⟨m, hm⟩ := jsw_cn hG (h.2 hv)
      exact ⟨m, fun h => absurd h hv, fun _ => hm⟩
/-- a transformer that reaches one end alone -/
def jCn (T : (Option Value → jM → Prop) → Prop) : Prop := ∀ (P : Option Value → jM → Prop) (P' : Nat → Option Value → jM → Prop), (∀ r x, P r x → ∃ m, P' m r x) → T P → ∃ m, T (P' m)
set_option maxHeartbeats 4000000 in
theorem jx_cn {O : jO} {N : Nat} {K : Nat → jSh} {G : jG} {G' : Nat → jG} {Q : Option Value → jM → Prop} {Q' : Nat → Option Value → jM → Prop} {q : jI} {k : Nat} {L : List (Option Value)} {st : List Value} {x : jM} (hO : ∀ a as x, jCn (O a as x))
    (hG : ∀ k L st x, G k L st x → ∃ m, G' m k L st x) (hQ : ∀ r x, Q r x → ∃ m, Q' m r x) (hx : jx O N K G Q q k L st x) : ∃ m, jx O N K (G' m) (Q' m) q k L st x := by
  obtain ⟨pc, i, len, a, b, cv, ts⟩ := q
  cases i with
  | iconst _ =>
    exact hG _ _ _ _ hx
  | bipush _ =>
    exact hG _ _ _ _ hx
  | sipush _ =>
    exact hG _ _ _ _ hx
  | ldc _ =>
    exact hG _ _ _ _ hx
  | ldc_w _ =>
    exact hG _ _ _ _ hx
  | lconst _ =>
    exact hG _ _ _ _ hx
  | ldc2_w _ =>
    exact hG _ _ _ _ hx
  | iload_n _ =>
    obtain ⟨v, hl, hx⟩ := jgI_spec hx
    obtain ⟨m, h⟩ := hG _ _ _ _ hx
    exact ⟨m, jgI_i hl h⟩
  | iload _ =>
    obtain ⟨v, hl, hx⟩ := jgI_spec hx
    obtain ⟨m, h⟩ := hG _ _ _ _ hx
    exact ⟨m, jgI_i hl h⟩
  | lload_n _ =>
    obtain ⟨v, hl, hx⟩ := jgL_spec hx
    obtain ⟨m, h⟩ := hG _ _ _ _ hx
    exact ⟨m, jgL_i hl h⟩
  | lload _ =>
    obtain ⟨v, hl, hx⟩ := jgL_spec hx
    obtain ⟨m, h⟩ := hG _ _ _ _ hx
    exact ⟨m, jgL_i hl h⟩
  | aload_n _ =>
    obtain ⟨v, hl, hx⟩ := jgA_spec hx
    obtain ⟨m, h⟩ := hG _ _ _ _ hx
    exact ⟨m, jgA_i hl h⟩
  | istore_n _ =>
    obtain ⟨v, r, rfl, hx⟩ := jpI_spec hx
    obtain ⟨hs, hx⟩ := jB_spec hx
    obtain ⟨m, h⟩ := hG _ _ _ _ hx
    exact ⟨m, jB_i hs h⟩
  | istore _ =>
    obtain ⟨v, r, rfl, hx⟩ := jpI_spec hx
    obtain ⟨hs, hx⟩ := jB_spec hx
    obtain ⟨m, h⟩ := hG _ _ _ _ hx
    exact ⟨m, jB_i hs h⟩
  | lstore_n _ =>
    obtain ⟨v, r, rfl, hx⟩ := jpL_spec hx
    obtain ⟨hs, hx⟩ := jB_spec hx
    obtain ⟨m, h⟩ := hG _ _ _ _ hx
    exact ⟨m, jB_i hs h⟩
  | lstore _ =>
    obtain ⟨v, r, rfl, hx⟩ := jpL_spec hx
    obtain ⟨hs, hx⟩ := jB_spec hx
    obtain ⟨m, h⟩ := hG _ _ _ _ hx
    exact ⟨m, jB_i hs h⟩
  | iinc _ _ =>
    obtain ⟨v, hl, hx⟩ := jgI_spec hx
    obtain ⟨hs, hx⟩ := jB_spec hx
    obtain ⟨m, h⟩ := hG _ _ _ _ hx
    exact ⟨m, jgI_i hl (jB_i hs h)⟩
  | iadd =>
    obtain ⟨v, y, r, rfl, hx⟩ := jp2_spec hx
    exact hG _ _ _ _ hx
  | isub =>
    obtain ⟨v, y, r, rfl, hx⟩ := jp2_spec hx
    exact hG _ _ _ _ hx
  | imul =>
    obtain ⟨v, y, r, rfl, hx⟩ := jp2_spec hx
    exact hG _ _ _ _ hx
  | iand =>
    obtain ⟨v, y, r, rfl, hx⟩ := jp2_spec hx
    exact hG _ _ _ _ hx
  | ior =>
    obtain ⟨v, y, r, rfl, hx⟩ := jp2_spec hx
    exact hG _ _ _ _ hx
  | ixor =>
    obtain ⟨v, y, r, rfl, hx⟩ := jp2_spec hx
    exact hG _ _ _ _ hx
  | ishl =>
    obtain ⟨v, y, r, rfl, hx⟩ := jp2_spec hx
    exact hG _ _ _ _ hx
  | ishr =>
    obtain ⟨v, y, r, rfl, hx⟩ := jp2_spec hx
    exact hG _ _ _ _ hx
  | iushr =>
    obtain ⟨v, y, r, rfl, hx⟩ := jp2_spec hx
    exact hG _ _ _ _ hx
  | idiv =>
    obtain ⟨v, y, r, rfl, hn, hx⟩ := jp2_spec hx
    obtain ⟨m, h⟩ := hG _ _ _ _ hx
    exact ⟨m, hn, h⟩
  | irem =>
    obtain ⟨v, y, r, rfl, hn, hx⟩ := jp2_spec hx
    obtain ⟨m, h⟩ := hG _ _ _ _ hx
    exact ⟨m, hn, h⟩
  | ladd =>
    obtain ⟨v, y, r, rfl, hx⟩ := jp2L_spec hx
    exact hG _ _ _ _ hx
  | lmul =>
    obtain ⟨v, y, r, rfl, hx⟩ := jp2L_spec hx
    exact hG _ _ _ _ hx
  | lcmp =>
    obtain ⟨v, y, r, rfl, hx⟩ := jp2L_spec hx
    exact hG _ _ _ _ hx
  | ldiv =>
    obtain ⟨v, y, r, rfl, hn, hx⟩ := jp2L_spec hx
    obtain ⟨m, h⟩ := hG _ _ _ _ hx
    exact ⟨m, hn, h⟩
  | lrem =>
    obtain ⟨v, y, r, rfl, hn, hx⟩ := jp2L_spec hx
    obtain ⟨m, h⟩ := hG _ _ _ _ hx
    exact ⟨m, hn, h⟩
  | ineg =>
    obtain ⟨v, r, rfl, hx⟩ := jpI_spec hx
    exact hG _ _ _ _ hx
  | i2l =>
    obtain ⟨v, r, rfl, hx⟩ := jpI_spec hx
    exact hG _ _ _ _ hx
  | l2i =>
    obtain ⟨v, r, rfl, hx⟩ := jpL_spec hx
    exact hG _ _ _ _ hx
  | dup =>
    cases st with
    | nil => exact False.elim hx
    | cons v r =>
      obtain ⟨hs, hx⟩ := jB_spec hx
      obtain ⟨m, h⟩ := hG _ _ _ _ hx
      exact ⟨m, jB_i hs h⟩
  | dup2 =>
    match st, hx with
    | [], hx => exact False.elim hx
    | [_], hx => exact False.elim hx
    | v :: w :: r, hx =>
      obtain ⟨hs, hx⟩ := jB_spec hx
      obtain ⟨m, h⟩ := hG _ _ _ _ hx
      exact ⟨m, jB_i hs h⟩
  | getfield _ =>
    obtain ⟨ob, r, rfl, hx⟩ := jpA_spec hx
    obtain ⟨hj, hx⟩ := jB_spec hx
    rcases jrk_spec hx with ⟨hk, hx⟩ | ⟨j, hk, hx⟩
    · obtain ⟨m, h⟩ := hG _ _ _ _ hx
      exact ⟨m, jB_i hj (jrk_0 hk h)⟩
    · obtain ⟨m, h⟩ := hG _ _ _ _ hx
      exact ⟨m, jB_i hj (jrk_r hk h)⟩
  | putfield _ =>
    obtain ⟨v, r0, rfl, hx⟩ := jpI_spec hx
    obtain ⟨ob, r, rfl, hx⟩ := jpA_spec hx
    obtain ⟨hj, hc, hx⟩ := jB_spec hx
    obtain ⟨m, h⟩ := hG _ _ _ _ hx
    exact ⟨m, jB_i hj ⟨hc, h⟩⟩
  | iaload =>
    obtain ⟨i, r0, rfl, hx⟩ := jpI_spec hx
    obtain ⟨ob, r, rfl, hx⟩ := jpA_spec hx
    obtain ⟨hj, hi, hx⟩ := jB_spec hx
    obtain ⟨m, h⟩ := hG _ _ _ _ hx
    exact ⟨m, jB_i hj ⟨hi, h⟩⟩
  | baload =>
    obtain ⟨i, r0, rfl, hx⟩ := jpI_spec hx
    obtain ⟨ob, r, rfl, hx⟩ := jpA_spec hx
    obtain ⟨hj, hi, hx⟩ := jB_spec hx
    obtain ⟨m, h⟩ := hG _ _ _ _ hx
    exact ⟨m, jB_i hj ⟨hi, h⟩⟩
  | iastore =>
    obtain ⟨v, r1, rfl, hx⟩ := jpI_spec hx
    obtain ⟨i, r0, rfl, hx⟩ := jpI_spec hx
    obtain ⟨ob, r, rfl, hx⟩ := jpA_spec hx
    obtain ⟨hj, hi, hx⟩ := jB_spec hx
    obtain ⟨m, h⟩ := hG _ _ _ _ hx
    exact ⟨m, jB_i hj ⟨hi, h⟩⟩
  | bastore =>
    obtain ⟨v, r1, rfl, hx⟩ := jpI_spec hx
    obtain ⟨i, r0, rfl, hx⟩ := jpI_spec hx
    obtain ⟨ob, r, rfl, hx⟩ := jpA_spec hx
    obtain ⟨hj, hi, hv, hx⟩ := jB_spec hx
    obtain ⟨m, h⟩ := hG _ _ _ _ hx
    exact ⟨m, jB_i hj ⟨hi, hv, h⟩⟩
  | aaload =>
    obtain ⟨i, r0, rfl, hx⟩ := jpI_spec hx
    obtain ⟨ob, r, rfl, hx⟩ := jpA_spec hx
    obtain ⟨hj, hi, hx⟩ := jB_spec hx
    rcases jrk_spec hx with ⟨hk, hx⟩ | ⟨j, hk, hx⟩
    · exact hx.elim
    · obtain ⟨m, h⟩ := hG _ _ _ _ hx
      exact ⟨m, jB_i hj ⟨hi, jrk_r hk h⟩⟩
  | goto _ =>
    exact hG _ _ _ _ hx
  | ifCond cd _ =>
    obtain ⟨v, r, rfl, hx⟩ := jpI_spec hx
    by_cases hc : jif cd v
    · obtain ⟨m, h⟩ := hG _ _ _ _ (hx.1 hc)
      exact ⟨m, fun _ => h, fun h2 => absurd h2 (jif_not hc)⟩
    · obtain ⟨m, h⟩ := hG _ _ _ _ (hx.2 (jif_or hc))
      exact ⟨m, fun h2 => absurd h2 hc, fun _ => h⟩
  | if_icmp cd _ =>
    obtain ⟨v, y, r, rfl, hx⟩ := jp2_spec hx
    by_cases hc : jic cd v y
    · obtain ⟨m, h⟩ := hG _ _ _ _ (hx.1 hc)
      exact ⟨m, fun _ => h, fun h2 => absurd h2 (jic_not hc)⟩
    · obtain ⟨m, h⟩ := hG _ _ _ _ (hx.2 (jic_or hc))
      exact ⟨m, fun h2 => absurd h2 hc, fun _ => h⟩
  | tableswitch dflt lo hi offs =>
    obtain ⟨v, r, rfl, hx⟩ := jpI_spec hx
    exact jsw_cn (fun t h => hG _ _ _ _ h) hx
  | lookupswitch dflt ps =>
    obtain ⟨v, r, rfl, hx⟩ := jpI_spec hx
    exact jsw_cn (fun t h => hG _ _ _ _ h) hx
  | invokevirtual n =>
    obtain ⟨ob, r, hst, hx⟩ := jpA_spec hx
    obtain ⟨hj, hx⟩ := jB_spec hx
    obtain ⟨m, h⟩ := hO _ _ _ _ (fun m rv x' => G' m (k + 1) L (rv.toList ++ r) x') (fun rv x' h => hG _ _ _ _ h) hx
    refine ⟨m, ?_⟩
    show jpA (st.drop b) _
    rw [hst]
    exact jB_i hj h
  | invokestatic n =>
    match cv, hx with
    | 0, hx =>
      obtain ⟨hj, hx⟩ := jB_spec hx
      obtain ⟨m, h⟩ := hO _ _ _ _ (fun m rv x' => G' m (k + 1) L (rv.toList ++ st.drop b) x') (fun rv x' h => hG _ _ _ _ h) hx
      exact ⟨m, jB_i hj h⟩
    | 1, hx =>
      obtain ⟨v, y, r, rfl, hx⟩ := jp2_spec hx
      obtain ⟨hj, hx⟩ := jB_spec hx
      obtain ⟨m, h⟩ := hG _ _ _ _ hx
      exact ⟨m, jB_i hj h⟩
    | 2, hx =>
      obtain ⟨v, y, r, rfl, hx⟩ := jp2_spec hx
      obtain ⟨hj, hx⟩ := jB_spec hx
      obtain ⟨m, h⟩ := hG _ _ _ _ hx
      exact ⟨m, jB_i hj h⟩
    | 3, hx =>
      obtain ⟨v, r, rfl, hx⟩ := jpI_spec hx
      obtain ⟨hj, hx⟩ := jB_spec hx
      obtain ⟨m, h⟩ := hG _ _ _ _ hx
      exact ⟨m, jB_i hj h⟩
    | 4, hx =>
      obtain ⟨n1, r0, rfl, hx⟩ := jpI_spec hx
      obtain ⟨dp, r1, rfl, hx⟩ := jpI_spec hx
      obtain ⟨d1, r2, rfl, hx⟩ := jpA_spec hx
      obtain ⟨sp, r3, rfl, hx⟩ := jpI_spec hx
      obtain ⟨ob, r, rfl, hx⟩ := jpA_spec hx
      obtain ⟨hj, g1, g2, g3, g4, g5, hx⟩ := jB_spec hx
      obtain ⟨m, h⟩ := hG _ _ _ _ hx
      exact ⟨m, jB_i hj ⟨g1, g2, g3, g4, g5, h⟩⟩
    | (z + 5 : Nat), hx => exact False.elim hx
    | .negSucc z, hx => exact False.elim hx
  | ireturn =>
    match st, hx with
    | [], hx => exact False.elim hx
    | [.int v], hx =>
      obtain ⟨m, h⟩ := hQ _ _ hx.2
      exact ⟨m, hx.1, h⟩
    | .long _ :: _, hx => exact False.elim hx
    | .ref _ :: _, hx => exact False.elim hx
    | .null :: _, hx => exact False.elim hx
    | .float _ :: _, hx => exact False.elim hx
    | .double _ :: _, hx => exact False.elim hx
    | .int _ :: _ :: _, hx => exact False.elim hx
  | return_ =>
    cases st with
    | nil => exact hQ _ _ hx
    | cons v r => exact False.elim hx
  | _ => exact False.elim hx
theorem jwp_cn {O : jO} {N : Nat} {K : Nat → jSh} {code : List jI} {Q : Option Value → jM → Prop} {Q' : Nat → Option Value → jM → Prop} (hO : ∀ a as x, jCn (O a as x)) (hQ : ∀ r x, Q r x → ∃ m, Q' m r x) :
    ∀ (n k : Nat) (L : List (Option Value)) (st : List Value) (x : jM), jwp O N K code Q n k L st x → ∃ m, jwp O N K code (Q' m) n k L st x := by
  intro n
  induction n with
  | zero => intro k L st x h; exact False.elim h
  | succ n ih =>
    intro k L st x h
    unfold jwp at h
    split at h
    · exact False.elim h
    · next q hq =>
      obtain ⟨m, hm⟩ := jx_cn (G' := fun m k L st x => jwp O N K code (Q' m) n k L st x) hO ih hQ h
      refine ⟨m, ?_⟩
      unfold jwp
      rw [hq]
      exact hm
theorem jOl_cn (N : Nat) (K : Nat → jSh) : ∀ (d a : Nat) (as : List Value) (x : jM), jCn (jOl N K d a as x) := by
  intro d
  induction d with
  | zero => intro a as x P P' _ h; exact False.elim h
  | succ d ih =>
    intro a as x P P' hP h
    unfold jOl at h ⊢
    split at h
    · next r z h1 h2 =>
      obtain ⟨hl, n, hn⟩ := h
      obtain ⟨m, hm⟩ := jwp_cn ih hP n _ _ _ _ hn
      exact ⟨m, hl, n, hm⟩
    · exact False.elim h
/-- the place k of a method, calls at most d deep -/
def jw (d : Nat) (code : List jI) (Qr : Option Value → jM → Prop) (k : Nat) (L : List (Option Value)) (st : List Value) (x : jM) : Prop := ∃ n, jwp (jOl 136 jK d) 136 jK code Qr n k L st x
theorem jw_u {d : Nat} {code : List jI} {Qr : Option Value → jM → Prop} {k : Nat} {L : List (Option Value)} {st : List Value} {x : jM} {q : jI} (hq : code[k]? = some q) (h : jx (jOl 136 jK d) 136 jK (fun k L st x => jw d code Qr k L st x) Qr q k L st x) : jw d code Qr k L st x := by
  obtain ⟨n, hn⟩ := jx_cn (G' := fun n k L st x => jwp (jOl 136 jK d) 136 jK code Qr n k L st x) (Q' := fun _ => Qr) (jOl_cn 136 jK d) (fun k L st x h => h) (fun r x h => ⟨0, h⟩) h
  refine ⟨n + 1, ?_⟩
  unfold jwp
  rw [hq]
  exact hn
/-- a call of method a -/
abbrev jo (d a : Nat) (as : List Value) (x : jM) (Q : Option Value → jM → Prop) : Prop := jOl 136 jK d a as x Q
theorem jo_i {d a : Nat} {as : List Value} {x : jM} {Q : Option Value → jM → Prop} {r : jR} {z : Nat × List jI} (hr : jMt[a]? = some r) (hz : jCs[a]? = some z) (hl : (jent as).length ≤ r.2.2.1) (h : jw d z.2 Q 0 (jenL r.2.2.1 as) [] x) : jo (d + 1) a as x Q := by
  show jOl 136 jK (d + 1) a as x Q
  unfold jOl
  rw [hr, hz]
  exact ⟨hl, h⟩
theorem jo_mono {d a : Nat} {as : List Value} {x : jM} {Q Q' : Option Value → jM → Prop} (hQ : ∀ r x, Q r x → Q' r x) (h : jo d a as x Q) : jo d a as x Q' := by
  obtain ⟨m, hm⟩ := jOl_cn 136 jK d a as x Q (fun _ => Q') (fun r x h => ⟨0, hQ r x h⟩) h
  exact hm
/-- the law's place -/
def jwl (d Ls : Nat) (xs : Nat → Int32) (k : Nat) (L : List (Option Value)) (st : List Value) (x : jM) : Prop := ∃ n, jwpL (jOl 136 jK d) 136 jK Ls xs kL (fun r _ => r = some (.int 1)) n k L st x
theorem jwl_u {d Ls : Nat} {xs : Nat → Int32} {k : Nat} {L : List (Option Value)} {st : List Value} {x : jM} {q : jI} (hq : kL[k]? = some q) (h : jxL (jOl 136 jK d) 136 jK Ls xs (fun k L st x => jwl d Ls xs k L st x) (fun r _ => r = some (.int 1)) q k L st x) : jwl d Ls xs k L st x := by
  have key : ∃ n, jxL (jOl 136 jK d) 136 jK Ls xs (fun k L st x => jwpL (jOl 136 jK d) 136 jK Ls xs kL (fun r _ => r = some (.int 1)) n k L st x) (fun r _ => r = some (.int 1)) q k L st x := by
    have gen : jx (jOl 136 jK d) 136 jK (fun k L st x => jwl d Ls xs k L st x) (fun r _ => r = some (.int 1)) q k L st x → ∃ n, jx (jOl 136 jK d) 136 jK (fun k L st x => jwpL (jOl 136 jK d) 136 jK Ls xs kL (fun r _ => r = some (.int 1)) n k L st x) (fun r _ => r = some (.int 1)) q k L st x := fun h => jx_cn (G := fun k L st x => jwl d Ls xs k L st x) (G' := fun n k L st x => jwpL (jOl 136 jK d) 136 jK Ls xs kL (fun r _ => r = some (.int 1)) n k L st x) (Q := fun r _ => r = some (.int 1)) (Q' := fun _ => (fun r _ => r = some (.int 1))) (jOl_cn 136 jK d) (fun k L st x h => h) (fun r x h => ⟨0, h⟩) h
    obtain ⟨pc, i, len, a, b, cv, ts⟩ := q
    cases i with
    | iaload =>
      obtain ⟨i, r0, rfl, h1⟩ := jpI_spec h
      obtain ⟨ob, r, rfl, ho, hi, h2⟩ := jpA_spec h1
      obtain ⟨n, hn⟩ := h2
      exact ⟨n, ho, hi, hn⟩
    | arraylength =>
      obtain ⟨ob, r, rfl, ho, h2⟩ := jpA_spec h
      obtain ⟨n, hn⟩ := h2
      exact ⟨n, ho, hn⟩
    | _ => exact gen h
  obtain ⟨n, hn⟩ := key
  refine ⟨n + 1, ?_⟩
  unfold jwpL
  rw [hq]
  exact hn
end
section
/-! PURE: numbers, loops, loads -/
theorem dn (P : Nat → Prop) (n : Nat) (h0 : P n) (hs : ∀ i, i < n → P (i + 1) → P i) : ∀ i, i ≤ n → P i := by
  intro i hi
  obtain ⟨k, rfl⟩ : ∃ k, n = i + k := ⟨n - i, by omega⟩
  clear hi
  induction k generalizing i with
  | zero => exact h0
  | succ k ih => exact hs i (by omega) (ih (i + 1) (by rw [show i + 1 + k = i + (k + 1) by omega]; exact h0) (fun j hj => hs j (by omega)))
section LD
variable {d k : Nat} {code : List jI} {Q : Option Value → jM → Prop} {L : List (Option Value)} {r : List Value} {x : jM}
/-- a load from a row of numbers at a known place -/
theorem jaN {o j n : Nat} {v : Int32} (hj : j < n) (hs : n < 2 ^ 31) (e : x o j = v) (h : jw d code Q k L (.int v :: r) x) : vp_in (nI j) n ∧ jw d code Q k L (.int (x o (nI j).toNatClampNeg) :: r) x := by
  refine ⟨vp_in_nI hj hs, ?_⟩
  rw [nI_clamp (by omega), e]
  exact h
/-- a store into a row of numbers at a known place -/
theorem jsN {o j n : Nat} {v : Int32} (hj : j < n) (hs : n < 2 ^ 31) (h : jw d code Q k L r (ju x o j v)) : vp_in (nI j) n ∧ jw d code Q k L r (ju x o (nI j).toNatClampNeg v) := by
  refine ⟨vp_in_nI hj hs, ?_⟩
  rw [nI_clamp (by omega)]
  exact h
/-- another form of the number on top -/
theorem jtop {v v' : Int32} (e : v = v') (h : jw d code Q k L (.int v' :: r) x) : jw d code Q k L (.int v :: r) x := e ▸ h
theorem jtopL {v v' : Int64} (e : v = v') (h : jw d code Q k L (.long v' :: r) x) : jw d code Q k L (.long v :: r) x := e ▸ h
end LD
theorem jret {Q : Option Value → jM → Prop} {x : jM} {v v' : Int32} (e : v = v') (h : Q (some (.int v')) x) : Q (some (.int v)) x := e ▸ h
theorem ju_s (x : jM) (o k : Nat) (v : Int32) : ju x o k v o k = v := by simp [ju, jua, upd]
theorem ju_k {x : jM} {o k k' : Nat} {v : Int32} (h : k' ≠ k) : ju x o k v o k' = x o k' := by simp [ju, jua, upd, h]
theorem ju_o {x : jM} {o o' k k' : Nat} {v : Int32} (h : o' ≠ o) : ju x o k v o' k' = x o' k' := by simp [ju, jua, h]
theorem jua_s (x : jM) (o : Nat) (f : Nat → Int32) : jua x o f o = f := by simp [jua]
theorem jua_o {x : jM} {o o' : Nat} {f : Nat → Int32} (h : o' ≠ o) : jua x o f o' = x o' := by simp [jua, h]
/-- how far apart two numbers are -/
def ds (a b : Nat) : Nat := if a < b then b - a else a - b
theorem ab_nI {u v : Nat} (hu : u < 2 ^ 30) (hv : v < 2 ^ 30) : (if 0 ≤ nI u - nI v then nI u - nI v else 0 - (nI u - nI v)) = nI (ds u v) := by
  unfold ds
  by_cases h : u < v
  · have h1 := pk_sneg hv h
    rw [if_neg (by rw [Int32.not_le]; exact h1), if_pos h, Int32.zero_sub, Int32.neg_sub, pk_sub (by omega)]
  · rw [if_neg h, pk_sub (by omega), if_pos (nI_pos' (by omega))]
def ap (a b : Nat) : Nat := ds (a / 100) (b / 100) + ds (a / 10 % 10) (b / 10 % 10) + ds (a % 10) (b % 10)
theorem ap_lt {a b : Nat} (ha : a < 1000) (hb : b < 1000) : ap a b ≤ 27 := by
  unfold ap ds
  have h1 : a / 100 < 10 := by omega
  have h2 : b / 100 < 10 := by omega
  have h3 : a / 10 % 10 < 10 := by omega
  have h4 : b / 10 % 10 < 10 := by omega
  have h5 : a % 10 < 10 := by omega
  have h6 : b % 10 < 10 := by omega
  generalize a / 100 = u1 at *
  generalize b / 100 = u2 at *
  generalize a / 10 % 10 = u3 at *
  generalize b / 10 % 10 = u4 at *
  generalize a % 10 = u5 at *
  generalize b % 10 = u6 at *
  split <;> split <;> split <;> omega
/-- no part further than t -/
def nr (a b t : Nat) : Bool := decide (ds (a / 100) (b / 100) ≤ t) && (decide (ds (a / 10 % 10) (b / 10 % 10) ≤ t) && decide (ds (a % 10) (b % 10) ≤ t))
/-- the part k of a mark -/
def dg (a k : Nat) : Nat := if k = 0 then a / 100 else if k = 1 then a / 10 % 10 else a % 10
theorem dg_lt {a k : Nat} (ha : a < 1000) : dg a k < 10 := by
  unfold dg
  split
  · omega
  · split <;> omega
/-- a set out of a test, the first i of it -/
def sb (P : Nat → Bool) : Nat → Int32
  | 0 => nI 0
  | i + 1 => if P i = true then sb P i ||| (nI 1 <<< (nI i &&& 31)) else sb P i
/-- the least by f of those that are ok, the first of like ones -/
def am (f : Nat → Nat) (ok : Nat → Bool) : Nat → Option Nat
  | 0 => none
  | i + 1 => match am f ok i with
    | none => if ok i = true then some i else none
    | some b => if ok i = true ∧ f i < f b then some i else some b
def oI (o : Option Nat) : Int32 := match o with
  | none => -1
  | some b => nI b
def oF (f : Nat → Nat) (z : Nat) (o : Option Nat) : Nat := match o with
  | none => z
  | some b => f b
theorem am_lt {f : Nat → Nat} {ok : Nat → Bool} : ∀ {n b : Nat}, am f ok n = some b → b < n
  | 0, b, h => by cases h
  | n + 1, b, h => by
    unfold am at h
    split at h
    · split at h
      · cases h; exact Nat.lt_succ_self _
      · cases h
    · next c hc =>
      split at h
      · cases h; exact Nat.lt_succ_self _
      · cases h; exact Nat.lt_succ_of_lt (am_lt hc)
theorem d1 {a : Nat} (ha : a < 1000) : nI a / nI 100 = nI (a / 100) := pk_div (by omega) (by decide) (by decide)
theorem d2 {a : Nat} (ha : a < 1000) : nI a / nI 10 - nI a / nI 10 / nI 10 * nI 10 = nI (a / 10 % 10) := by
  rw [pk_div (by omega) (by decide) (by decide), pk_rem (by omega) (by decide) (by decide)]
theorem d3 {a : Nat} (ha : a < 1000) : nI a - nI a / nI 10 * nI 10 = nI (a % 10) := pk_rem (by omega) (by decide) (by decide)
theorem e1 {a b : Nat} (ha : a < 1000) (hb : b < 1000) : (if 0 ≤ nI a / nI 100 - nI b / nI 100 then nI a / nI 100 - nI b / nI 100 else 0 - (nI a / nI 100 - nI b / nI 100)) = nI (ds (a / 100) (b / 100)) := by
  rw [d1 ha, d1 hb, ab_nI (by omega) (by omega)]
theorem e2 {a b : Nat} (ha : a < 1000) (hb : b < 1000) : (if 0 ≤ (nI a / nI 10 - nI a / nI 10 / nI 10 * nI 10) - (nI b / nI 10 - nI b / nI 10 / nI 10 * nI 10) then (nI a / nI 10 - nI a / nI 10 / nI 10 * nI 10) - (nI b / nI 10 - nI b / nI 10 / nI 10 * nI 10) else 0 - ((nI a / nI 10 - nI a / nI 10 / nI 10 * nI 10) - (nI b / nI 10 - nI b / nI 10 / nI 10 * nI 10))) = nI (ds (a / 10 % 10) (b / 10 % 10)) := by
  rw [d2 ha, d2 hb, ab_nI (by omega) (by omega)]
theorem e3 {a b : Nat} (ha : a < 1000) (hb : b < 1000) : (if 0 ≤ (nI a - nI a / nI 10 * nI 10) - (nI b - nI b / nI 10 * nI 10) then (nI a - nI a / nI 10 * nI 10) - (nI b - nI b / nI 10 * nI 10) else 0 - ((nI a - nI a / nI 10 * nI 10) - (nI b - nI b / nI 10 * nI 10))) = nI (ds (a % 10) (b % 10)) := by
  rw [d3 ha, d3 hb, ab_nI (by omega) (by omega)]
theorem ilt {p : Int32} {n : Nat} (hn : n < 2 ^ 31) (h : 0 ≤ p ∧ p < nI n) : ∃ j : Nat, j < n ∧ p = nI j := by
  rcases pk_ix p hn with h1 | h1 | h1
  · exact absurd h.1 (by simpa using h1)
  · exact absurd h.2 (by simpa using h1)
  · exact h1
theorem ilt2 {j n : Nat} (hn : n < 2 ^ 31) (h : j < n) : 0 ≤ nI j ∧ nI j < nI n := ⟨nI_pos' (by omega), nI_lt h hn⟩
theorem icn {c : Prop} (h : ¬ c) {P : Prop} : c → P := fun h2 => absurd h2 h
theorem n10 : ¬ nI 1 = (0 : Int32) := by decide
theorem n00 : nI 0 = (0 : Int32) := by decide
theorem nI_s (i : Nat) : nI (i + 1) = nI i + nI 1 := (nI_add i 1).symm
end
section
/-! THE CLASS: marks and persons -/
theorem c_apart {d a b : Nat} {x : jM} {Q : Option Value → jM → Prop} (ha : a < 1000) (hb : b < 1000) (h : Q (some (.int (nI (ap a b)))) x) : jo (d + 1) 67 [.int (nI a), .int (nI b)] x Q := by
  refine jo_i rfl rfl (Nat.le_of_ble_eq_true rfl) ?_
  repeat refine jw_u rfl ?_
  refine ⟨by decide, ?_⟩
  repeat refine jw_u rfl ?_
  refine ⟨by decide, ?_⟩
  iterate 2 refine jw_u rfl ?_
  refine jtop (e1 ha hb) ?_
  repeat refine jw_u rfl ?_
  refine ⟨by decide, ?_⟩
  repeat refine jw_u rfl ?_
  refine ⟨by decide, ?_⟩
  repeat refine jw_u rfl ?_
  refine ⟨by decide, ?_⟩
  repeat refine jw_u rfl ?_
  refine ⟨by decide, ?_⟩
  iterate 2 refine jw_u rfl ?_
  refine jtop (e2 ha hb) ?_
  iterate 1 refine jw_u rfl ?_
  repeat refine jw_u rfl ?_
  refine ⟨by decide, ?_⟩
  repeat refine jw_u rfl ?_
  refine ⟨by decide, ?_⟩
  iterate 2 refine jw_u rfl ?_
  refine jtop (e3 ha hb) ?_
  repeat refine jw_u rfl ?_
  exact ⟨fun h => (by cases h), jret (by rw [nI_add, nI_add]; rfl) h⟩
theorem c_isPerson {d n : Nat} {p : Int32} {x : jM} {Q : Option Value → jM → Prop} (hn : x 11 2 = nI n) (h1 : 0 ≤ p ∧ p < nI n → Q (some (.int (nI 1))) x) (h2 : ¬ (0 ≤ p ∧ p < nI n) → Q (some (.int (nI 0))) x) : jo (d + 1) 61 [.ref 0, .int p] x Q := by
  refine jo_i rfl rfl (Nat.le_of_ble_eq_true rfl) ?_
  iterate 2 refine jw_u rfl ?_
  refine ⟨fun (c : p < 0) => ?_, fun (c : ¬ p < 0) => ?_⟩
  · iterate 2 refine jw_u rfl ?_
    exact ⟨fun _ => Or.inl rfl, h2 (fun hc => absurd hc.1 (by simpa using c))⟩
  · iterate 5 refine jw_u rfl ?_
    refine ⟨fun (c2 : x 11 2 ≤ p) => ?_, fun (c2 : ¬ x 11 2 ≤ p) => ?_⟩
    · rw [hn] at c2
      iterate 2 refine jw_u rfl ?_
      exact ⟨fun _ => Or.inl rfl, h2 (fun hc => absurd hc.2 (by simpa using c2))⟩
    · rw [hn] at c2
      iterate 3 refine jw_u rfl ?_
      exact ⟨fun _ => Or.inr rfl, h1 ⟨by simpa using c, by simpa using c2⟩⟩
theorem c_isPaper {d n : Nat} {p : Int32} {x : jM} {Q : Option Value → jM → Prop} (hn : x 15 1 = nI n) (h1 : 0 ≤ p ∧ p < nI n → Q (some (.int (nI 1))) x) (h2 : ¬ (0 ≤ p ∧ p < nI n) → Q (some (.int (nI 0))) x) : jo (d + 1) 62 [.ref 0, .int p] x Q := by
  refine jo_i rfl rfl (Nat.le_of_ble_eq_true rfl) ?_
  iterate 2 refine jw_u rfl ?_
  refine ⟨fun (c : p < 0) => ?_, fun (c : ¬ p < 0) => ?_⟩
  · iterate 2 refine jw_u rfl ?_
    exact ⟨fun _ => Or.inl rfl, h2 (fun hc => absurd hc.1 (by simpa using c))⟩
  · iterate 5 refine jw_u rfl ?_
    refine ⟨fun (c2 : x 15 1 ≤ p) => ?_, fun (c2 : ¬ x 15 1 ≤ p) => ?_⟩
    · rw [hn] at c2
      iterate 2 refine jw_u rfl ?_
      exact ⟨fun _ => Or.inl rfl, h2 (fun hc => absurd hc.2 (by simpa using c2))⟩
    · rw [hn] at c2
      iterate 3 refine jw_u rfl ?_
      exact ⟨fun _ => Or.inr rfl, h1 ⟨by simpa using c, by simpa using c2⟩⟩
theorem c_isCandidate {d n : Nat} {p : Int32} {x : jM} {Q : Option Value → jM → Prop} (hn : x 11 5 = nI n) (h1 : 0 ≤ p ∧ p < nI n → Q (some (.int (nI 1))) x) (h2 : ¬ (0 ≤ p ∧ p < nI n) → Q (some (.int (nI 0))) x) : jo (d + 1) 63 [.ref 0, .int p] x Q := by
  refine jo_i rfl rfl (Nat.le_of_ble_eq_true rfl) ?_
  iterate 2 refine jw_u rfl ?_
  refine ⟨fun (c : p < 0) => ?_, fun (c : ¬ p < 0) => ?_⟩
  · iterate 2 refine jw_u rfl ?_
    exact ⟨fun _ => Or.inl rfl, h2 (fun hc => absurd hc.1 (by simpa using c))⟩
  · iterate 5 refine jw_u rfl ?_
    refine ⟨fun (c2 : x 11 5 ≤ p) => ?_, fun (c2 : ¬ x 11 5 ≤ p) => ?_⟩
    · rw [hn] at c2
      iterate 2 refine jw_u rfl ?_
      exact ⟨fun _ => Or.inl rfl, h2 (fun hc => absurd hc.2 (by simpa using c2))⟩
    · rw [hn] at c2
      iterate 3 refine jw_u rfl ?_
      exact ⟨fun _ => Or.inr rfl, h1 ⟨by simpa using c, by simpa using c2⟩⟩
theorem c_isImage {d : Nat} {p : Int32} {x : jM} {Q : Option Value → jM → Prop} (h1 : 0 ≤ p ∧ p < nI 2 → Q (some (.int (nI 1))) x) (h2 : ¬ (0 ≤ p ∧ p < nI 2) → Q (some (.int (nI 0))) x) : jo (d + 1) 64 [.int p] x Q := by
  refine jo_i rfl rfl (Nat.le_of_ble_eq_true rfl) ?_
  iterate 2 refine jw_u rfl ?_
  refine ⟨fun (c : p < 0) => ?_, fun (c : ¬ p < 0) => ?_⟩
  · iterate 2 refine jw_u rfl ?_
    exact ⟨fun _ => Or.inl rfl, h2 (fun hc => absurd hc.1 (by simpa using c))⟩
  · iterate 3 refine jw_u rfl ?_
    refine ⟨fun (c2 : nI 2 ≤ p) => ?_, fun (c2 : ¬ nI 2 ≤ p) => ?_⟩
    · iterate 2 refine jw_u rfl ?_
      exact ⟨fun _ => Or.inl rfl, h2 (fun hc => absurd hc.2 (by simpa using c2))⟩
    · iterate 3 refine jw_u rfl ?_
      exact ⟨fun _ => Or.inr rfl, h1 ⟨by simpa using c, by simpa using c2⟩⟩
theorem c_isMark {d : Nat} {p : Int32} {x : jM} {Q : Option Value → jM → Prop} (h1 : 0 ≤ p ∧ p < nI 1000 → Q (some (.int (nI 1))) x) (h2 : ¬ (0 ≤ p ∧ p < nI 1000) → Q (some (.int (nI 0))) x) : jo (d + 1) 65 [.int p] x Q := by
  refine jo_i rfl rfl (Nat.le_of_ble_eq_true rfl) ?_
  iterate 2 refine jw_u rfl ?_
  refine ⟨fun (c : p < 0) => ?_, fun (c : ¬ p < 0) => ?_⟩
  · iterate 2 refine jw_u rfl ?_
    exact ⟨fun _ => Or.inl rfl, h2 (fun hc => absurd hc.1 (by simpa using c))⟩
  · iterate 3 refine jw_u rfl ?_
    refine ⟨fun (c2 : nI 1000 ≤ p) => ?_, fun (c2 : ¬ nI 1000 ≤ p) => ?_⟩
    · iterate 2 refine jw_u rfl ?_
      exact ⟨fun _ => Or.inl rfl, h2 (fun hc => absurd hc.2 (by simpa using c2))⟩
    · iterate 3 refine jw_u rfl ?_
      exact ⟨fun _ => Or.inr rfl, h1 ⟨by simpa using c, by simpa using c2⟩⟩
theorem c_part {d a k : Nat} {x : jM} {Q : Option Value → jM → Prop} (ha : a < 1000) (hk : k < 3) (h : Q (some (.int (nI (dg a k)))) x) : jo (d + 1) 66 [.int (nI a), .int (nI k)] x Q := by
  refine jo_i rfl rfl (Nat.le_of_ble_eq_true rfl) ?_
  iterate 2 refine jw_u rfl ?_
  have hi : (nI k).toInt = (k : Int) := nI_toInt (by omega)
  refine ⟨fun (c : (nI k).toInt = 0) => ?_, fun (c : ¬ (nI k).toInt = 0) => ⟨fun (c2 : (nI k).toInt = 1) => ?_, fun (c2 : ¬ (nI k).toInt = 1) => ?_⟩⟩
  · rw [hi] at c
    have e : k = 0 := by omega
    subst e
    iterate 3 refine jw_u rfl ?_
    refine ⟨by decide, ?_⟩
    refine jw_u rfl ?_
    exact ⟨fun h => (by cases h), jret (d1 ha) h⟩
  · rw [hi] at c2
    have e : k = 1 := by omega
    subst e
    iterate 3 refine jw_u rfl ?_
    refine ⟨by decide, ?_⟩
    iterate 2 refine jw_u rfl ?_
    refine ⟨by decide, ?_⟩
    refine jw_u rfl ?_
    exact ⟨fun h => (by cases h), jret (d2 ha) h⟩
  · rw [hi] at c c2
    have e : k = 2 := by omega
    subst e
    iterate 3 refine jw_u rfl ?_
    refine ⟨by decide, ?_⟩
    refine jw_u rfl ?_
    exact ⟨fun h => (by cases h), jret (d3 ha) h⟩
theorem c_within {d a b t : Nat} {x : jM} {Q : Option Value → jM → Prop} (ha : a < 1000) (hb : b < 1000) (ht : t < 100) (h1 : nr a b t = true → Q (some (.int (nI 1))) x) (h2 : nr a b t = false → Q (some (.int (nI 0))) x) : jo (d + 1) 68 [.int (nI a), .int (nI b), .int (nI t)] x Q := by
  have b1 : ds (a / 100) (b / 100) < 2 ^ 31 := by unfold ds; split <;> omega
  have b2 : ds (a / 10 % 10) (b / 10 % 10) < 2 ^ 31 := by unfold ds; split <;> omega
  have b3 : ds (a % 10) (b % 10) < 2 ^ 31 := by unfold ds; split <;> omega
  refine jo_i rfl rfl (Nat.le_of_ble_eq_true rfl) ?_
  iterate 3 refine jw_u rfl ?_
  refine ⟨by decide, ?_⟩
  iterate 3 refine jw_u rfl ?_
  refine ⟨by decide, ?_⟩
  iterate 2 refine jw_u rfl ?_
  refine jtop (e1 ha hb) ?_
  iterate 2 refine jw_u rfl ?_
  refine ⟨fun (c : nI t < nI (ds (a / 100) (b / 100))) => ?_, fun (c : ¬ nI t < nI (ds (a / 100) (b / 100))) => ?_⟩
  · rw [nI_ltI (by omega) b1] at c
    iterate 2 refine jw_u rfl ?_
    exact ⟨fun _ => Or.inl rfl, h2 (by simp [nr, Nat.not_le.mpr c])⟩
  rw [nI_ltI (by omega) b1] at c
  iterate 3 refine jw_u rfl ?_
  refine ⟨by decide, ?_⟩
  iterate 2 refine jw_u rfl ?_
  refine ⟨by decide, ?_⟩
  iterate 3 refine jw_u rfl ?_
  refine ⟨by decide, ?_⟩
  iterate 2 refine jw_u rfl ?_
  refine ⟨by decide, ?_⟩
  iterate 2 refine jw_u rfl ?_
  refine jtop (e2 ha hb) ?_
  iterate 2 refine jw_u rfl ?_
  refine ⟨fun (c2 : nI t < nI (ds (a / 10 % 10) (b / 10 % 10))) => ?_, fun (c2 : ¬ nI t < nI (ds (a / 10 % 10) (b / 10 % 10))) => ?_⟩
  · rw [nI_ltI (by omega) b2] at c2
    iterate 2 refine jw_u rfl ?_
    exact ⟨fun _ => Or.inl rfl, h2 (by simp [nr, Nat.not_le.mpr c2])⟩
  rw [nI_ltI (by omega) b2] at c2
  iterate 3 refine jw_u rfl ?_
  refine ⟨by decide, ?_⟩
  iterate 3 refine jw_u rfl ?_
  refine ⟨by decide, ?_⟩
  iterate 2 refine jw_u rfl ?_
  refine jtop (e3 ha hb) ?_
  iterate 2 refine jw_u rfl ?_
  refine ⟨fun (c3 : nI t < nI (ds (a % 10) (b % 10))) => ?_, fun (c3 : ¬ nI t < nI (ds (a % 10) (b % 10))) => ?_⟩
  · rw [nI_ltI (by omega) b3] at c3
    iterate 2 refine jw_u rfl ?_
    exact ⟨fun _ => Or.inl rfl, h2 (by simp [nr, Nat.not_le.mpr c3])⟩
  rw [nI_ltI (by omega) b3] at c3
  iterate 3 refine jw_u rfl ?_
  exact ⟨fun _ => Or.inr rfl, h1 (by simp [nr, Nat.not_lt.mp c, Nat.not_lt.mp c2, Nat.not_lt.mp c3])⟩
section CQ1
variable {d n : Nat} {x : jM} {Q : Option Value → jM → Prop} {hd sl : Nat → Nat}
theorem c_passes {a j : Nat} (hn : x 11 2 = nI n) (h8 : n ≤ 8) (hh : ∀ k, k < n → x 16 k = nI (hd k)) (hs : ∀ k, k < n → x 12 k = nI (sl k)) (bh : ∀ k, k < n → hd k < 1000) (bs : ∀ k, k < n → sl k ≤ 3) (ha : a < 1000) (hj : j < n) (h1 : nr a (hd j) (sl j) = true → Q (some (.int (nI 1))) x) (h2 : nr a (hd j) (sl j) = false → Q (some (.int (nI 0))) x) : jo (d + 2) 69 [.ref 0, .int (nI a), .int (nI j)] x Q := by
  refine jo_i rfl rfl (Nat.le_of_ble_eq_true rfl) ?_
  iterate 3 refine jw_u rfl ?_
  refine c_isPerson hn (fun _ => ?_) (fun h => absurd (ilt2 (by omega) hj) h)
  refine jw_u rfl ⟨fun c => absurd c n10, fun _ => ?_⟩
  iterate 5 refine jw_u rfl ?_
  refine jw_u rfl (jaN (show j < 8 by omega) (by decide) (hh j hj) ?_)
  iterate 4 refine jw_u rfl ?_
  refine jw_u rfl (jaN (show j < 8 by omega) (by decide) (hs j hj) ?_)
  refine jw_u rfl ?_
  have := bs j hj
  refine c_within ha (bh j hj) (by omega) (fun hw => ?_) (fun hw => ?_)
  · refine jw_u rfl ⟨fun c => absurd c n10, fun _ => ?_⟩
    iterate 3 refine jw_u rfl ?_
    exact ⟨fun _ => Or.inr rfl, h1 hw⟩
  · refine jw_u rfl ⟨fun _ => ?_, fun c => absurd rfl c⟩
    iterate 2 refine jw_u rfl ?_
    exact ⟨fun _ => Or.inl rfl, h2 hw⟩
theorem c_passSet {a : Nat} (hn : x 11 2 = nI n) (h8 : n ≤ 8) (hh : ∀ k, k < n → x 16 k = nI (hd k)) (hs : ∀ k, k < n → x 12 k = nI (sl k)) (bh : ∀ k, k < n → hd k < 1000) (bs : ∀ k, k < n → sl k ≤ 3) (ha : a < 1000) (h : Q (some (.int (sb (fun j => nr a (hd j) (sl j)) n))) x) : jo (d + 3) 70 [.ref 0, .int (nI a)] x Q := by
  have loop : ∀ i, i ≤ n → jw (d + 2) kX6_passSet Q 4 [some (.ref 0), some (.int (nI a)), some (.int (sb (fun j => nr a (hd j) (sl j)) i)), some (.int (nI i))] [] x := by
    refine dn _ n ?_ (fun i hi ih => ?_)
    · iterate 4 refine jw_u rfl ?_
      refine jw_u rfl ⟨fun _ => ?_, fun (c : ¬ x 11 2 ≤ nI n) => absurd (by rw [hn]; exact Int32.le_refl _) c⟩
      iterate 2 refine jw_u rfl ?_
      exact ⟨fun h => (by cases h), h⟩
    · iterate 4 refine jw_u rfl ?_
      refine jw_u rfl ⟨fun (c : x 11 2 ≤ nI i) => absurd c (by rw [hn]; exact nI_ge hi (by omega)), fun _ => ?_⟩
      iterate 4 refine jw_u rfl ?_
      refine c_passes hn h8 hh hs bh bs ha hi (fun hw => ?_) (fun hw => ?_)
      · refine jw_u rfl ⟨fun c => absurd c n10, fun _ => ?_⟩
        iterate 8 refine jw_u rfl ?_
        rw [sb, if_pos hw, nI_s i] at ih
        exact ih
      · refine jw_u rfl ⟨fun _ => ?_, fun c => absurd rfl c⟩
        iterate 2 refine jw_u rfl ?_
        rw [sb, if_neg (by rw [hw]; decide), nI_s i] at ih
        exact ih
  refine jo_i rfl rfl (Nat.le_of_ble_eq_true rfl) ?_
  iterate 4 refine jw_u rfl ?_
  exact loop 0 (Nat.zero_le _)
end CQ1
end
section
/-! THE CLASS: choices, who is nearest, told apart, counts, years -/
theorem am_no {f : Nat → Nat} {ok : Nat → Bool} {i : Nat} (h : ok i = false ∨ ∃ b, am f ok i = some b ∧ f b ≤ f i) : am f ok (i + 1) = am f ok i := by
  rw [am]
  rcases h with h | ⟨b, h1, h2⟩
  · split
    · next hn => rw [if_neg (by rw [h]; decide), hn]
    · next b hb => rw [if_neg (fun hc => by rw [h] at hc; exact absurd hc.1 (by decide)), hb]
  · rw [h1]
    dsimp only
    rw [if_neg (fun hc => absurd hc.2 (Nat.not_lt.mpr h2))]
theorem am_yes {f : Nat → Nat} {ok : Nat → Bool} {i : Nat} (h1 : ok i = true) (h : am f ok i = none ∨ ∃ b, am f ok i = some b ∧ f i < f b) : am f ok (i + 1) = some i := by
  rw [am]
  rcases h with h | ⟨b, h2, h3⟩
  · rw [h]
    dsimp only
    rw [if_pos h1]
  · rw [h2]
    dsimp only
    rw [if_pos ⟨h1, h3⟩]
theorem oF_le {f : Nat → Nat} {z y : Nat} {o : Option Nat} (hz : y < z) (h : oF f z o ≤ y) : ∃ b, o = some b ∧ f b ≤ y := by
  cases o with
  | none => exact absurd h (Nat.not_le.mpr hz)
  | some b => exact ⟨b, rfl, h⟩
theorem oF_gt {f : Nat → Nat} {z y : Nat} {o : Option Nat} (h : y < oF f z o) : o = none ∨ ∃ b, o = some b ∧ y < f b := by
  cases o with
  | none => exact Or.inl rfl
  | some b => exact Or.inr ⟨b, rfl, h⟩
theorem oF_lt {f : Nat → Nat} {ok : Nat → Bool} {i n : Nat} (hi : i ≤ n) (hf : ∀ k, k < n → f k ≤ 27) : oF f 100 (am f ok i) ≤ 100 := by
  cases h : am f ok i with
  | none => exact Nat.le_refl _
  | some b =>
    have := hf b (Nat.lt_of_lt_of_le (am_lt h) hi)
    show f b ≤ 100
    omega
section CQ2
variable {d n : Nat} {x : jM} {Q : Option Value → jM → Prop} {hd sl sq : Nat → Nat}
theorem c_choice {a c : Nat} (hc : x 11 5 = nI c) (h4 : c ≤ 4) (hq : ∀ k, k < c → x 14 k = nI (sq k)) (bq : ∀ k, k < c → sq k < 1000) (ha : a < 1000) (h : Q (some (.int (oI (am (fun k => ap a (sq k)) (fun _ => true) c)))) x) : jo (d + 2) 78 [.ref 0, .int (nI a)] x Q := by
  have bf : ∀ k, k < c → ap a (sq k) ≤ 27 := fun k hk => ap_lt ha (bq k hk)
  have loop : ∀ i, i ≤ c → ∀ g, jw (d + 1) kX6_choice Q 6 [some (.ref 0), some (.int (nI a)), some (.int (oI (am (fun k => ap a (sq k)) (fun _ => true) i))), some (.int (nI (oF (fun k => ap a (sq k)) 100 (am (fun k => ap a (sq k)) (fun _ => true) i)))), some (.int (nI i)), g] [] x := by
    refine dn _ c (fun g => ?_) (fun i hi ih g => ?_)
    · iterate 4 refine jw_u rfl ?_
      refine jw_u rfl ⟨fun _ => ?_, fun (c' : ¬ x 11 5 ≤ nI c) => absurd (by rw [hc]; exact Int32.le_refl _) c'⟩
      iterate 2 refine jw_u rfl ?_
      exact ⟨fun h => (by cases h), h⟩
    · have b1 := oF_lt (f := fun k => ap a (sq k)) (ok := fun _ => true) (Nat.le_of_lt hi) bf
      have b2 := bf i hi
      iterate 4 refine jw_u rfl ?_
      refine jw_u rfl ⟨fun (c' : x 11 5 ≤ nI i) => absurd c' (by rw [hc]; exact nI_ge hi (by omega)), fun _ => ?_⟩
      iterate 5 refine jw_u rfl ?_
      refine jw_u rfl (jaN (show i < 4 by omega) (by decide) (hq i hi) ?_)
      refine jw_u rfl ?_
      refine c_apart ha (bq i hi) ?_
      iterate 3 refine jw_u rfl ?_
      refine jw_u rfl ⟨fun (c' : nI (oF _ 100 _) ≤ nI (ap a (sq i))) => ?_, fun (c' : ¬ nI (oF _ 100 _) ≤ nI (ap a (sq i))) => ?_⟩
      · rw [nI_leI (by omega) (by omega)] at c'
        have e := am_no (f := fun k => ap a (sq k)) (ok := fun _ => true) (i := i) (Or.inr (oF_le (by omega) c'))
        have ih := ih (some (.int (nI (ap a (sq i)))))
        rw [e, nI_s i] at ih
        iterate 2 refine jw_u rfl ?_
        exact ih
      · rw [nI_leI (by omega) (by omega)] at c'
        have e := am_yes (f := fun k => ap a (sq k)) (ok := fun _ => true) (i := i) rfl (oF_gt (Nat.not_le.mp c'))
        have ih := ih (some (.int (nI (ap a (sq i)))))
        rw [e, nI_s i] at ih
        iterate 6 refine jw_u rfl ?_
        exact ih
  refine jo_i rfl rfl (Nat.le_of_ble_eq_true rfl) ?_
  iterate 6 refine jw_u rfl ?_
  exact loop 0 (Nat.zero_le _) none
theorem c_nearestTo {p : Nat} (hn : x 11 2 = nI n) (h8 : n ≤ 8) (hh : ∀ k, k < n → x 16 k = nI (hd k)) (bh : ∀ k, k < n → hd k < 1000) (hp : p < n) (h : Q (some (.int (oI (am (fun k => ap (hd p) (hd k)) (fun k => k != p) n)))) x) : jo (d + 2) 75 [.ref 0, .int (nI p)] x Q := by
  have bf : ∀ k, k < n → ap (hd p) (hd k) ≤ 27 := fun k hk => ap_lt (bh p hp) (bh k hk)
  have loop : ∀ i, i ≤ n → ∀ g, jw (d + 1) kX6_nearestTo Q 6 [some (.ref 0), some (.int (nI p)), some (.int (oI (am (fun k => ap (hd p) (hd k)) (fun k => k != p) i))), some (.int (nI (oF (fun k => ap (hd p) (hd k)) 100 (am (fun k => ap (hd p) (hd k)) (fun k => k != p) i)))), some (.int (nI i)), g] [] x := by
    refine dn _ n (fun g => ?_) (fun i hi ih g => ?_)
    · iterate 4 refine jw_u rfl ?_
      refine jw_u rfl ⟨fun _ => ?_, fun (c' : ¬ x 11 2 ≤ nI n) => absurd (by rw [hn]; exact Int32.le_refl _) c'⟩
      iterate 2 refine jw_u rfl ?_
      exact ⟨fun h => (by cases h), h⟩
    · have b1 := oF_lt (f := fun k => ap (hd p) (hd k)) (ok := fun k => k != p) (Nat.le_of_lt hi) bf
      have b2 := bf i hi
      have ih := ih (some (.int (nI (ap (hd p) (hd i)))))
      iterate 4 refine jw_u rfl ?_
      refine jw_u rfl ⟨fun (c' : x 11 2 ≤ nI i) => absurd c' (by rw [hn]; exact nI_ge hi (by omega)), fun _ => ?_⟩
      iterate 4 refine jw_u rfl ?_
      refine jw_u rfl (jaN (show p < 8 by omega) (by decide) (hh p hp) ?_)
      iterate 4 refine jw_u rfl ?_
      refine jw_u rfl (jaN (show i < 8 by omega) (by decide) (hh i hi) ?_)
      refine jw_u rfl ?_
      refine c_apart (bh p hp) (bh i hi) ?_
      iterate 3 refine jw_u rfl ?_
      refine jw_u rfl ⟨fun (c' : nI i = nI p) => ?_, fun (c' : ¬ nI i = nI p) => ?_⟩
      · rw [nI_eq (by omega) (by omega)] at c'
        have e := am_no (f := fun k => ap (hd p) (hd k)) (ok := fun k => k != p) (i := i) (Or.inl (by simp [c']))
        rw [e, nI_s i] at ih
        iterate 2 refine jw_u rfl ?_
        exact ih
      rw [nI_eq (by omega) (by omega)] at c'
      iterate 2 refine jw_u rfl ?_
      refine jw_u rfl ⟨fun (c2 : nI (oF _ 100 _) ≤ nI (ap (hd p) (hd i))) => ?_, fun (c2 : ¬ nI (oF _ 100 _) ≤ nI (ap (hd p) (hd i))) => ?_⟩
      · rw [nI_leI (by omega) (by omega)] at c2
        have e := am_no (f := fun k => ap (hd p) (hd k)) (ok := fun k => k != p) (i := i) (Or.inr (oF_le (by omega) c2))
        rw [e, nI_s i] at ih
        iterate 2 refine jw_u rfl ?_
        exact ih
      · rw [nI_leI (by omega) (by omega)] at c2
        have e := am_yes (f := fun k => ap (hd p) (hd k)) (ok := fun k => k != p) (i := i) (by simp [c']) (oF_gt (Nat.not_le.mp c2))
        rw [e, nI_s i] at ih
        iterate 6 refine jw_u rfl ?_
        exact ih
  refine jo_i rfl rfl (Nat.le_of_ble_eq_true rfl) ?_
  iterate 6 refine jw_u rfl ?_
  exact loop 0 (Nat.zero_le _) none
theorem c_toldApart {o p q : Nat} (ho : o = 15 ∨ o = 19) (h8 : n ≤ 8) (hh : ∀ k, k < n → x (o + 1) k = nI (hd k)) (hs : ∀ k, k < n → x 12 k = nI (sl k)) (bh : ∀ k, k < n → hd k < 1000) (bs : ∀ k, k < n → sl k ≤ 3) (hp : p < n) (hq : q < n) (h1 : nr (hd p) (hd q) (sl p + sl q) = false → Q (some (.int (nI 1))) x) (h2 : nr (hd p) (hd q) (sl p + sl q) = true → Q (some (.int (nI 0))) x) : jo (d + 2) 73 [.ref 0, .ref o, .int (nI p), .int (nI q)] x Q := by
  have b1 := bs p hp
  have b2 := bs q hq
  refine jo_i rfl rfl (Nat.le_of_ble_eq_true rfl) ?_
  rcases ho with rfl | rfl <;>
  · iterate 3 refine jw_u rfl ?_
    refine jw_u rfl (jaN (show p < 8 by omega) (by decide) (hh p hp) ?_)
    iterate 3 refine jw_u rfl ?_
    refine jw_u rfl (jaN (show q < 8 by omega) (by decide) (hh q hq) ?_)
    iterate 4 refine jw_u rfl ?_
    refine jw_u rfl (jaN (show p < 8 by omega) (by decide) (hs p hp) ?_)
    iterate 4 refine jw_u rfl ?_
    refine jw_u rfl (jaN (show q < 8 by omega) (by decide) (hs q hq) ?_)
    refine jw_u rfl ?_
    refine jtop (nI_add _ _) ?_
    refine jw_u rfl ?_
    refine c_within (bh p hp) (bh q hq) (by omega) (fun hw => ?_) (fun hw => ?_)
    · refine jw_u rfl ⟨fun _ => ?_, fun c => absurd c n10⟩
      iterate 2 refine jw_u rfl ?_
      exact ⟨fun _ => Or.inl rfl, h2 hw⟩
    · refine jw_u rfl ⟨fun c => absurd n00 c, fun _ => ?_⟩
      iterate 3 refine jw_u rfl ?_
      exact ⟨fun _ => Or.inr rfl, h1 hw⟩
end CQ2
end
section
/-! THE CLASS: how many marks pass, weights, years, draws -/
theorem mn_nI {a b : Nat} (ha : a < 2 ^ 31) (hb : b < 2 ^ 31) : (if nI b < nI a then nI b else nI a) = nI (min a b) := by
  by_cases h : b < a
  · rw [if_pos (nI_lt h ha), Nat.min_eq_right (Nat.le_of_lt h)]
  · rw [if_neg (nI_nlt (by omega) hb), Nat.min_eq_left (by omega)]
theorem mx_nI {a b : Nat} (ha : a < 2 ^ 31) (hb : b < 2 ^ 31) : (if nI a < nI b then nI b else nI a) = nI (max a b) := by
  by_cases h : a < b
  · rw [if_pos (nI_lt h hb), Nat.max_eq_right (Nat.le_of_lt h)]
  · rw [if_neg (nI_nlt (by omega) ha), Nat.max_eq_left (by omega)]
theorem mx_sub {a b c : Nat} (ha : a < 2 ^ 30) (hb : b < 2 ^ 30) (hc : c < 2 ^ 30) : (if nI a - nI b < nI c then nI c else nI a - nI b) = nI (max (a - b) c) := by
  by_cases h : a < b
  · have h1 := pk_sneg hb h
    have h2 : nI a - nI b < nI c := by
      rw [Int32.lt_iff_toInt_lt] at h1 ⊢
      rw [nI_toInt (by omega)]
      have : (0 : Int32).toInt = 0 := by decide
      omega
    rw [if_pos h2, show a - b = 0 by omega, Nat.max_eq_right (Nat.zero_le _)]
  · rw [pk_sub (by omega), mx_nI (by omega) (by omega)]
/-- how many marks pass, part by part -/
def pcn (a s : Nat) : Nat → Nat
  | 0 => 1
  | k + 1 => pcn a s k * (min (dg a k + s) 9 - max (dg a k - s) 0 + 1)
theorem pcn_1 (a s : Nat) : ∀ k, 1 ≤ pcn a s k
  | 0 => Nat.le_refl _
  | k + 1 => Nat.mul_pos (pcn_1 a s k) (Nat.succ_pos _)
theorem pcn_le {a s : Nat} : ∀ k, pcn a s k ≤ 10 ^ k
  | 0 => Nat.le_refl _
  | k + 1 => by
    rw [pcn, Nat.pow_succ]
    exact Nat.mul_le_mul (pcn_le k) (by omega)
theorem pcn_3 {a s k : Nat} (hk : k ≤ 3) : pcn a s k ≤ 1000 := Nat.le_trans (pcn_le k) (Nat.le_trans (Nat.pow_le_pow_right (by decide) hk) (by decide))
/-- a year's mark -/
def ag (a r g od : Nat) : Nat := 100 * (if a / 100 < g / 100 then min (a / 100 + r) (g / 100) else max (a / 100 - r) (g / 100)) + 10 * (a / 10 % 10) + (if od = 1 then a % 10 - 1 else a % 10)
theorem ag_lt {a r g od : Nat} (ha : a < 1000) (hg : g < 1000) : ag a r g od < 1000 := by
  unfold ag
  have h1 : a / 100 ≤ 9 := by omega
  have h2 : g / 100 ≤ 9 := by omega
  have h3 : a / 10 % 10 ≤ 9 := by omega
  have h4 : a % 10 ≤ 9 := by omega
  generalize a / 100 = u1 at *
  generalize g / 100 = u2 at *
  generalize a / 10 % 10 = u3 at *
  generalize a % 10 = u4 at *
  split <;> split <;> omega
section CQ3
variable {d n : Nat} {x : jM} {Q : Option Value → jM → Prop} {hd sl dr : Nat → Nat}
theorem c_passCount {p : Nat} (h8 : n ≤ 8) (hh : ∀ k, k < n → x 16 k = nI (hd k)) (hs : ∀ k, k < n → x 12 k = nI (sl k)) (bh : ∀ k, k < n → hd k < 1000) (bs : ∀ k, k < n → sl k ≤ 3) (hp : p < n) (h : Q (some (.int (nI (pcn (hd p) (sl p) 3)))) x) : jo (d + 2) 71 [.ref 0, .int (nI p)] x Q := by
  have b1 := bs p hp
  have loop : ∀ i, i ≤ 3 → ∀ g, jw (d + 1) kX6_passCount Q 10 [some (.ref 0), some (.int (nI p)), some (.int (nI (sl p))), some (.int (nI (pcn (hd p) (sl p) i))), some (.int (nI i)), g] [] x := by
    refine dn _ 3 (fun g => ?_) (fun i hi ih g => ?_)
    · iterate 2 refine jw_u rfl ?_
      refine jw_u rfl ⟨fun _ => ?_, fun (c' : ¬ nI 3 ≤ nI 3) => absurd (Int32.le_refl _) c'⟩
      iterate 2 refine jw_u rfl ?_
      exact ⟨fun h => (by cases h), h⟩
    · have b2 : dg (hd p) i < 10 := dg_lt (bh p hp)
      have ih := ih (some (.int (nI (dg (hd p) i))))
      iterate 2 refine jw_u rfl ?_
      refine jw_u rfl ⟨fun (c' : nI 3 ≤ nI i) => absurd c' (nI_ge hi (by omega)), fun _ => ?_⟩
      iterate 4 refine jw_u rfl ?_
      refine jw_u rfl (jaN (show p < 8 by omega) (by decide) (hh p hp) ?_)
      iterate 2 refine jw_u rfl ?_
      refine c_part (bh p hp) hi ?_
      iterate 5 refine jw_u rfl ?_
      refine jtop (nI_add _ _) ?_
      iterate 2 refine jw_u rfl ?_
      refine jtop (mn_nI (b := 9) (by omega) (by omega)) ?_
      iterate 5 refine jw_u rfl ?_
      refine jtop (mx_sub (c := 0) (by omega) (by omega) (by omega)) ?_
      iterate 4 refine jw_u rfl ?_
      refine jtop (v' := nI (pcn (hd p) (sl p) (i + 1))) ?_ ?_
      · show nI _ * (nI _ - nI _ + nI 1) = _
        rw [pk_sub (by omega), nI_add, pk_mul]
        rfl
      rw [nI_s i] at ih
      iterate 3 refine jw_u rfl ?_
      exact ih
  refine jo_i rfl rfl (Nat.le_of_ble_eq_true rfl) ?_
  iterate 4 refine jw_u rfl ?_
  refine jw_u rfl (jaN (show p < 8 by omega) (by decide) (hs p hp) ?_)
  iterate 5 refine jw_u rfl ?_
  exact loop 0 (Nat.zero_le _) none
theorem c_weight {p : Nat} (h8 : n ≤ 8) (hh : ∀ k, k < n → x 16 k = nI (hd k)) (hs : ∀ k, k < n → x 12 k = nI (sl k)) (bh : ∀ k, k < n → hd k < 1000) (bs : ∀ k, k < n → sl k ≤ 3) (hp : p < n) (h : Q (some (.int (nI (1000000 / pcn (hd p) (sl p) 3)))) x) : jo (d + 3) 72 [.ref 0, .int (nI p)] x Q := by
  have b1 := pcn_1 (hd p) (sl p) 3
  have b2 := pcn_3 (a := hd p) (s := sl p) (Nat.le_refl 3)
  refine jo_i rfl rfl (Nat.le_of_ble_eq_true rfl) ?_
  iterate 3 refine jw_u rfl ?_
  refine c_passCount h8 hh hs bh bs hp ?_
  iterate 2 refine jw_u rfl ?_
  refine jw_u rfl ⟨fun _ => ?_, fun (c' : ¬ (0 : Int32) < nI _) => absurd (nI_lt (a := 0) (by omega) (by omega)) c'⟩
  iterate 2 refine jw_u rfl ?_
  refine jw_u rfl ⟨nI_ne0 (by omega) (by omega), ?_⟩
  refine jw_u rfl ?_
  exact ⟨fun h => (by cases h), jret (pk_div (a := 1000000) (by decide) (by omega) (by omega)) h⟩
theorem c_aged {a r g od : Nat} (hg : x 11 1 = nI g) (bg : g < 1000) (ha : a < 1000) (hr : r ≤ 2) (ho : od ≤ 1) (h : Q (some (.int (nI (ag a r g od)))) x) : jo (d + 2) 81 [.ref 0, .int (nI a), .int (nI r), .int (nI od)] x Q := by
  refine jo_i rfl rfl (Nat.le_of_ble_eq_true rfl) ?_
  iterate 3 refine jw_u rfl ?_
  refine c_part ha (by decide) ?_
  iterate 4 refine jw_u rfl ?_
  refine jtop hg ?_
  iterate 2 refine jw_u rfl ?_
  refine c_part bg (by decide) ?_
  iterate 3 refine jw_u rfl ?_
  have e0 : dg a 0 = a / 100 := rfl
  have e1' : dg g 0 = g / 100 := rfl
  have e2' : dg a 2 = a % 10 := rfl
  have e3' : dg a 1 = a / 10 % 10 := rfl
  rw [e0, e1']
  have b1 : a / 100 < 10 := by omega
  have b2 : g / 100 < 10 := by omega
  have fin : ∀ le : Nat, le < 100 → (le = if a / 100 < g / 100 then min (a / 100 + r) (g / 100) else max (a / 100 - r) (g / 100)) → jw (d + 1) kX6_aged Q 24 [some (.ref 0), some (.int (nI a)), some (.int (nI r)), some (.int (nI od)), some (.int (nI (a / 100))), some (.int (nI (g / 100))), none] [.int (nI le)] x := by
    intro le bl hle
    have fin2 : ∀ pr : Nat, (pr = if od = 1 then a % 10 - 1 else a % 10) → jw (d + 1) kX6_aged Q 37 [some (.ref 0), some (.int (nI a)), some (.int (nI r)), some (.int (nI od)), some (.int (nI le)), some (.int (nI (g / 100))), some (.int (nI pr))] [] x := by
      intro pr hpr
      iterate 6 refine jw_u rfl ?_
      refine jw_u rfl ?_
      refine c_part ha (by decide) ?_
      iterate 5 refine jw_u rfl ?_
      refine ⟨fun h => (by cases h), jret ?_ h⟩
      show nI 100 * nI le + nI 10 * nI (dg a 1) + nI pr = _
      rw [pk_mul, pk_mul, nI_add, nI_add, e3', hle, hpr]
      rfl
    iterate 3 refine jw_u rfl ?_
    refine jw_u rfl ?_
    refine c_part ha (by decide) ?_
    rw [e2']
    iterate 2 refine jw_u rfl ?_
    refine jw_u rfl ⟨fun (c : nI od = 0) => ?_, fun (c : ¬ nI od = 0) => ?_⟩
    · refine fin2 (a % 10) ?_
      have : ¬ od = 1 := by
        intro e
        rw [e] at c
        exact n10 c
      rw [if_neg this]
    · have e : od = 1 := by
        rcases (show od = 0 ∨ od = 1 by omega) with e | e
        · rw [e] at c
          exact absurd n00 c
        · exact e
      iterate 5 refine jw_u rfl ?_
      refine jtop (mx_sub (a := a % 10) (b := 1) (c := 0) (by omega) (by decide) (by decide)) ?_
      refine jw_u rfl ?_
      refine fin2 (max (a % 10 - 1) 0) ?_
      rw [if_pos e, Nat.max_eq_left (Nat.zero_le _)]
  refine jw_u rfl ⟨fun (c : nI (g / 100) ≤ nI (a / 100)) => ?_, fun (c : ¬ nI (g / 100) ≤ nI (a / 100)) => ?_⟩
  · rw [nI_leI (by omega) (by omega)] at c
    iterate 5 refine jw_u rfl ?_
    refine jtop (mx_sub (by omega) (by omega) (by omega)) ?_
    exact fin _ (by omega) (by rw [if_neg (by omega)])
  · rw [nI_leI (by omega) (by omega)] at c
    iterate 3 refine jw_u rfl ?_
    refine jtop (nI_add _ _) ?_
    iterate 2 refine jw_u rfl ?_
    refine jtop (mn_nI (by omega) (by omega)) ?_
    refine jw_u rfl ?_
    exact fin _ (by omega) (by rw [if_pos (by omega)])
end CQ3
end
section
/-! THE CLASS: years that pass, draws, states copied -/
/-- the mark after i years from the year y -/
def ya (r g y a : Nat) : Nat → Nat
  | 0 => a
  | i + 1 => ag (ya r g y a i) r g ((y + i) % 2)
theorem ya_lt {r g y a : Nat} (ha : a < 1000) (hg : g < 1000) : ∀ i, ya r g y a i < 1000
  | 0 => ha
  | i + 1 => ag_lt (ya_lt ha hg i) hg
def yP (x0 x : jM) (o n : Nat) (f f' : Nat → Nat) (p y : Nat) : Prop := (∀ i, i ≠ o → i ≠ o + 1 → x i = x0 i) ∧ (∀ k, k ≠ 4 → x o k = x0 o k) ∧ x o 4 = nI y ∧ (∀ k, k < n → x (o + 1) k = nI (if k < p then f' k else f k))
section CQ4
variable {d n : Nat} {x : jM} {Q : Option Value → jM → Prop} {hd sl dr : Nat → Nat}
set_option maxHeartbeats 1000000 in
theorem c_passYears {o m y g : Nat} (ho : o = 15 ∨ o = 19) (hm : m ≤ 100) (hy : y ≤ 100000) (hn : x 11 2 = nI n) (h8 : n ≤ 8) (hg : x 11 1 = nI g) (bg : g < 1000) (hr : ∀ k, k < n → x 13 k = nI (dr k)) (br : ∀ k, k < n → dr k ≤ 2) (hh : ∀ k, k < n → x (o + 1) k = nI (hd k)) (bh : ∀ k, k < n → hd k < 1000) (hyr : x o 4 = nI y)
    (h : ∀ x', (∀ i, i ≠ o → i ≠ o + 1 → x' i = x i) → (∀ k, k ≠ 4 → x' o k = x o k) → x' o 4 = nI (y + m) → (∀ k, k < n → x' (o + 1) k = nI (ya (dr k) g y (hd k) m)) → Q none x') : jo (d + 3) 80 [.ref 0, .ref o, .int (nI m)] x Q := by
  have o1 : o ≠ 11 ∧ o ≠ 13 ∧ o + 1 ≠ 11 ∧ o + 1 ≠ 13 := by omega
  have loop : ∀ i, i ≤ m → ∀ x1 g4 g5, yP x x1 o n (fun k => ya (dr k) g y (hd k) i) (fun k => ya (dr k) g y (hd k) i) 0 (y + i) → jw (d + 2) kX6_passYears Q 2 [some (.ref 0), some (.ref o), some (.int (nI m)), some (.int (nI i)), g4, g5] [] x1 := by
    refine dn _ m (fun x1 g4 g5 hx => ?_) (fun i hi ih x1 g4 g5 hx => ?_)
    · iterate 2 refine jw_u rfl ?_
      refine jw_u rfl ⟨fun _ => ?_, fun (c' : ¬ nI m ≤ nI m) => absurd (Int32.le_refl _) c'⟩
      refine jw_u rfl ?_
      exact h x1 hx.1 hx.2.1 hx.2.2.1 (fun k hk => by have := hx.2.2.2 k hk; simpa using this)
    · have inner : ∀ p, p ≤ n → ∀ x2, yP x x2 o n (fun k => ya (dr k) g y (hd k) i) (fun k => ya (dr k) g y (hd k) (i + 1)) p (y + i) → jw (d + 2) kX6_passYears Q 17 [some (.ref 0), some (.ref o), some (.int (nI m)), some (.int (nI i)), some (.int (nI ((y + i) % 2))), some (.int (nI p))] [] x2 := by
        refine dn _ n (fun x2 h2 => ?_) (fun p hp ihp x2 h2 => ?_)
        · have e11 : x2 11 2 = nI n := by rw [h2.1 11 (by omega) (by omega)]; exact hn
          iterate 4 refine jw_u rfl ?_
          refine jw_u rfl ⟨fun _ => ?_, fun (c' : ¬ x2 11 2 ≤ nI n) => absurd (by rw [e11]; exact Int32.le_refl _) c'⟩
          have fin : jw (d + 2) kX6_passYears Q 2 [some (.ref 0), some (.ref o), some (.int (nI m)), some (.int (nI i + nI 1)), some (.int (nI ((y + i) % 2))), some (.int (nI n))] [] (ju x2 o 4 (nI (y + i) + nI 1)) := by
            rw [← nI_s i]
            refine ih _ _ _ ⟨fun k h1 h3 => ?_, fun k hk => ?_, ?_, fun k hk => ?_⟩
            · rw [← h2.1 k h1 h3]
              funext z
              exact ju_o h1
            · rw [ju_k hk]
              exact h2.2.1 k hk
            · rw [ju_s, ← nI_s]
              rfl
            · rw [ju_o (by omega), h2.2.2.2 k hk, if_pos hk, if_neg (Nat.not_lt_zero _)]
          have ey := h2.2.2.1
          rcases ho with rfl | rfl <;>
          · iterate 3 refine jw_u rfl ?_
            refine jtop ey ?_
            iterate 3 refine jw_u rfl ?_
            refine ⟨fun h => (by cases h), ?_⟩
            iterate 2 refine jw_u rfl ?_
            exact fin
        · have e11 : x2 11 2 = nI n := by rw [h2.1 11 (by omega) (by omega)]; exact hn
          have eg : x2 11 1 = nI g := by rw [h2.1 11 (by omega) (by omega)]; exact hg
          have er : x2 13 p = nI (dr p) := by rw [h2.1 13 (by omega) (by omega)]; exact hr p hp
          have eh : x2 (o + 1) p = nI (ya (dr p) g y (hd p) i) := by rw [h2.2.2.2 p hp, if_neg (Nat.lt_irrefl _)]
          iterate 4 refine jw_u rfl ?_
          refine jw_u rfl ⟨fun (c' : x2 11 2 ≤ nI p) => absurd c' (by rw [e11]; exact nI_ge hp (by omega)), fun _ => ?_⟩
          have fin : jw (d + 2) kX6_passYears Q 17 [some (.ref 0), some (.ref o), some (.int (nI m)), some (.int (nI i)), some (.int (nI ((y + i) % 2))), some (.int (nI p + nI 1))] [] (ju x2 (o + 1) p (nI (ya (dr p) g y (hd p) (i + 1)))) := by
            rw [← nI_s p]
            refine ihp _ ⟨fun k h1 h3 => ?_, fun k hk => ?_, ?_, fun k hk => ?_⟩
            · rw [← h2.1 k h1 h3]
              funext z
              exact ju_o h3
            · rw [ju_o (by omega)]
              exact h2.2.1 k hk
            · rw [ju_o (by omega)]
              exact h2.2.2.1
            · by_cases e : k = p
              · subst e
                rw [ju_s, if_pos (Nat.lt_succ_self _)]
              · rw [ju_k e, h2.2.2.2 k hk]
                by_cases h9 : k < p
                · rw [if_pos h9, if_pos (by omega)]
                · rw [if_neg h9, if_neg (by omega)]
          have b1 := ya_lt (r := dr p) (y := y) (bh p hp) bg i
          rcases ho with rfl | rfl <;>
          · iterate 7 refine jw_u rfl ?_
            refine jw_u rfl (jaN (show p < 8 by omega) (by decide) eh ?_)
            iterate 4 refine jw_u rfl ?_
            refine jw_u rfl (jaN (show p < 8 by omega) (by decide) er ?_)
            iterate 2 refine jw_u rfl ?_
            refine c_aged eg bg b1 (br p hp) (by omega) ?_
            refine jw_u rfl (jsN (show p < 8 by omega) (by decide) ?_)
            iterate 2 refine jw_u rfl ?_
            exact fin
      have hx0 : yP x x1 o n (fun k => ya (dr k) g y (hd k) i) (fun k => ya (dr k) g y (hd k) (i + 1)) 0 (y + i) := ⟨hx.1, hx.2.1, hx.2.2.1, fun k hk => by rw [hx.2.2.2 k hk]; simp⟩
      have ey := hx.2.2.1
      iterate 2 refine jw_u rfl ?_
      refine jw_u rfl ⟨fun (c' : nI m ≤ nI i) => absurd c' (nI_ge hi (by omega)), fun _ => ?_⟩
      have go : jw (d + 2) kX6_passYears Q 14 [some (.ref 0), some (.ref o), some (.int (nI m)), some (.int (nI i)), g4, g5] [.int (nI ((y + i) % 2))] x1 := by
        iterate 3 refine jw_u rfl ?_
        exact inner 0 (Nat.zero_le _) x1 hx0
      rcases ho with rfl | rfl <;>
      · iterate 2 refine jw_u rfl ?_
        refine jtop ey ?_
        refine jw_u rfl ?_
        refine jw_u rfl ⟨by decide, ?_⟩
        refine jtop (pk_rem (a := y + i) (d := 2) (by omega) (by decide) (by decide)) ?_
        refine jw_u rfl ?_
        refine jw_u rfl ⟨fun (c' : ¬ nI ((y + i) % 2) = nI 1) => ?_, fun (c' : nI ((y + i) % 2) = nI 1) => ?_⟩
        · rw [nI_eq (by omega) (by decide)] at c'
          refine jw_u rfl ?_
          rw [show (y + i) % 2 = 0 by omega] at go
          exact go
        · rw [nI_eq (by omega) (by decide)] at c'
          iterate 2 refine jw_u rfl ?_
          rw [c'] at go
          exact go
  refine jo_i rfl rfl (Nat.le_of_ble_eq_true rfl) ?_
  iterate 2 refine jw_u rfl ?_
  exact loop 0 (Nat.zero_le _) x none none ⟨fun _ _ _ => rfl, fun _ _ => rfl, hyr, fun k hk => by rw [if_neg (Nat.not_lt_zero _)]; exact hh k hk⟩
/-- the next seed -/
def ns (s : Nat) : Nat := (s * 1103515245 + 12345) % 2147483648
theorem ns_lt (s : Nat) : ns s < 2147483648 := Nat.mod_lt _ (by decide)
theorem ns_e {s : Nat} (hs : s < 2147483648) : (((nI s).toInt64 * lN 1103515245 + lN 12345) - ((nI s).toInt64 * lN 1103515245 + lN 12345) / lN 2147483648 * lN 2147483648).toInt32 = nI (ns s) := by
  rw [nI_l hs, lN_mul, lN_add, pk_lRem (by omega) (by decide) (by decide), lN_i]
  rfl
theorem c_draw {s n : Nat} (hs : x 0 8 = nI s) (bs : s < 2147483648) (hn : 0 < n) (hn2 : n < 1000) (h : Q (some (.int (nI (ns s / 65536 % n)))) (ju x 0 8 (nI (ns s)))) : jo (d + 1) 83 [.ref 0, .int (nI n)] x Q := by
  have b := ns_lt s
  refine jo_i rfl rfl (Nat.le_of_ble_eq_true rfl) ?_
  iterate 3 refine jw_u rfl ?_
  refine jtop hs ?_
  iterate 6 refine jw_u rfl ?_
  refine jw_u rfl ⟨by decide, ?_⟩
  refine jw_u rfl ?_
  refine jtop (ns_e bs) ?_
  refine jw_u rfl ⟨fun h => (by cases h), ?_⟩
  refine jw_u rfl ?_
  refine jw_u rfl ⟨fun _ => ?_, fun (c' : ¬ (0 : Int32) < nI n) => absurd (nI_lt (a := 0) hn (by omega)) c'⟩
  iterate 2 refine jw_u rfl ?_
  refine jtop (ju_s x 0 8 _) ?_
  refine jw_u rfl ?_
  refine jw_u rfl ⟨by decide, ?_⟩
  refine jtop (pk_div (a := ns s) (d := 65536) (by omega) (by decide) (by decide)) ?_
  refine jw_u rfl ?_
  refine jw_u rfl ⟨nI_ne0 hn (by omega), ?_⟩
  refine jtop (pk_rem (by omega) hn (by omega)) ?_
  refine jw_u rfl ?_
  exact ⟨fun h => (by cases h), h⟩
end CQ4
end
section
/-! THE CLASS: states copied -/
/-- o is a State's cell -/
def stI (o : Nat) : Prop := o + 3 < 136 ∧ jK o = (5, 5, jsl [o + 3, 0, o + 4, o + 5, 0]) ∧ jK (o + 1) = (8, 8, fun _ => 0) ∧ jK (o + 2) = (8, 8, fun _ => 0) ∧ jK (o + 3) = (8, 8, fun _ => 0)
theorem stI_7 : stI 7 := ⟨by decide, rfl, rfl, rfl, rfl⟩
theorem stI_15 : stI 15 := ⟨by decide, rfl, rfl, rfl, rfl⟩
theorem stI_19 : stI 19 := ⟨by decide, rfl, rfl, rfl, rfl⟩
theorem stI_107 : stI 107 := ⟨by decide, rfl, rfl, rfl, rfl⟩
theorem stI_112 : stI 112 := ⟨by decide, rfl, rfl, rfl, rfl⟩
theorem stI_h {k : Nat} (hk : k < 20) : stI (25 + 4 * k) := by
  have key : ∀ r, r < 4 → jK (25 + 4 * k + r) = jKst (25 + 4 * k) r := by
    intro r hr
    unfold jK
    rw [if_neg (by omega), if_pos (by omega)]
    rw [show (25 + 4 * k + r - 25) / 4 = k by omega, show (25 + 4 * k + r - 25) % 4 = r by omega]
  refine ⟨by omega, ?_, ?_, ?_, ?_⟩
  · exact (key 0 (by decide)).trans rfl
  · exact (key 1 (by decide)).trans rfl
  · exact (key 2 (by decide)).trans rfl
  · exact (key 3 (by decide)).trans rfl
theorem stI_job {o b : Nat} (h : stI o) (hb : b < 5) : job 136 jK o 5 b = true := by
  have : o < 136 := by have := h.1; omega
  simp [job, h.2.1, hb, this]
theorem stI_jar {o r : Nat} (h : stI o) (hr : r = 1 ∨ r = 2 ∨ r = 3) : jar 136 jK (o + r) 8 = true := by
  have h0 := h.1
  rcases hr with rfl | rfl | rfl
  · have : o + 1 < 136 := by omega
    simp [jar, h.2.2.1, this]
  · have : o + 2 < 136 := by omega
    simp [jar, h.2.2.2.1, this]
  · have : o + 3 < 136 := by omega
    simp [jar, h.2.2.2.2, this]
theorem stI_len {o r : Nat} (h : stI o) (hr : r = 1 ∨ r = 2 ∨ r = 3) : (jK (o + r)).2.1 = 8 := by
  rcases hr with rfl | rfl | rfl
  · rw [h.2.2.1]
  · rw [h.2.2.2.1]
  · rw [h.2.2.2.2]
theorem stI_slot {o b : Nat} (h : stI o) : (jK o).2.2 b = jsl [o + 3, 0, o + 4, o + 5, 0] b := by rw [h.2.1]
/-- the state s copied into the state o -/
def cpA (x : jM) (o s r : Nat) : jM := jua x (o + r) (va_cpy (x (s + r)) (x (o + r)) 0 0 8)
def cpS (x : jM) (o s : Nat) : jM :=
  let x1 := ju x o 1 (x s 1)
  let x2 := ju x1 o 4 (x1 s 4)
  let x3 := cpA x2 o s 1
  let x4 := cpA x3 o s 2
  cpA x4 o s 3
theorem cpA_o {x : jM} {o s r i : Nat} (h : i ≠ o + r) : cpA x o s r i = x i := jua_o h
theorem cpA_s {x : jM} {o s r k : Nat} (hk : k < 8) : cpA x o s r (o + r) k = x (s + r) k := by
  unfold cpA
  rw [jua_s]
  simp [va_cpy, hk]
theorem ju_oo {x : jM} {o o' k : Nat} {v : Int32} (h : o' ≠ o) : ju x o k v o' = x o' := by funext z; exact ju_o h
theorem cpS_f {x : jM} {o s i : Nat} (h : i < o ∨ o + 3 < i) : cpS x o s i = x i := by
  unfold cpS
  rw [cpA_o (by omega), cpA_o (by omega), cpA_o (by omega), ju_oo (by omega), ju_oo (by omega)]
theorem cpS_1 {x : jM} {o s : Nat} : cpS x o s o 1 = x s 1 := by
  unfold cpS
  rw [cpA_o (by omega), cpA_o (by omega), cpA_o (by omega), ju_k (by decide), ju_s]
theorem cpS_4 {x : jM} {o s : Nat} (h : s ≠ o) : cpS x o s o 4 = x s 4 := by
  unfold cpS
  rw [cpA_o (by omega), cpA_o (by omega), cpA_o (by omega), ju_s, ju_o h]
theorem cpS_r {x : jM} {o s r k : Nat} (hd : o + 3 < s ∨ s + 3 < o) (hr : r = 1 ∨ r = 2 ∨ r = 3) (hk : k < 8) : cpS x o s (o + r) k = x (s + r) k := by
  unfold cpS
  rcases hr with rfl | rfl | rfl
  · rw [cpA_o (by omega), cpA_o (by omega), cpA_s hk, ju_oo (by omega), ju_oo (by omega)]
  · rw [cpA_o (by omega), cpA_s hk, cpA_o (by omega), ju_oo (by omega), ju_oo (by omega)]
  · rw [cpA_s hk, cpA_o (by omega), cpA_o (by omega), ju_oo (by omega), ju_oo (by omega)]
section CQ5
variable {d : Nat} {x : jM} {Q : Option Value → jM → Prop}
theorem c_takeS {o s : Nat} (ho : stI o) (hs : stI s) (h : Q none (cpS x o s)) : jo (d + 1) 23 [.ref o, .ref s] x Q := by
  have cp : ∀ (r : Nat), (r = 1 ∨ r = 2 ∨ r = 3) → (nI 0).toNatClampNeg + (nI 8).toNatClampNeg ≤ (jK (s + r)).2.1 ∧ (nI 0).toNatClampNeg + (nI 8).toNatClampNeg ≤ (jK (o + r)).2.1 := by
    intro r hr
    rw [stI_len hs hr, stI_len ho hr]
    decide
  have go1 : (jK o).2.2 1 = 0 := by rw [stI_slot ho]; rfl
  have go4 : (jK o).2.2 4 = 0 := by rw [stI_slot ho]; rfl
  have so1 : (jK s).2.2 1 = 0 := by rw [stI_slot hs]; rfl
  have so4 : (jK s).2.2 4 = 0 := by rw [stI_slot hs]; rfl
  have g0 : ∀ z, stI z → (jK z).2.2 0 = z + 1 + 2 := fun z hz => by rw [stI_slot hz]; rfl
  have g2 : ∀ z, stI z → (jK z).2.2 2 = z + 2 + 2 := fun z hz => by rw [stI_slot hz]; rfl
  have g3 : ∀ z, stI z → (jK z).2.2 3 = z + 3 + 2 := fun z hz => by rw [stI_slot hz]; rfl
  have jo0 := stI_job ho (b := 0) (by decide)
  have jo1 := stI_job ho (b := 1) (by decide)
  have jo2 := stI_job ho (b := 2) (by decide)
  have jo3 := stI_job ho (b := 3) (by decide)
  have jo4 := stI_job ho (b := 4) (by decide)
  have js0 := stI_job hs (b := 0) (by decide)
  have js1 := stI_job hs (b := 1) (by decide)
  have js2 := stI_job hs (b := 2) (by decide)
  have js3 := stI_job hs (b := 3) (by decide)
  have js4 := stI_job hs (b := 4) (by decide)
  have arr : ∀ r, (r = 1 ∨ r = 2 ∨ r = 3) → (jcs [] && jar 136 jK (s + r) 8 && jar 136 jK (o + r) 8) = true := fun r hr => by rw [stI_jar hs hr, stI_jar ho hr]; rfl
  refine jo_i rfl rfl (Nat.le_of_ble_eq_true rfl) ?_
  iterate 2 refine jw_u rfl ?_
  refine jw_u rfl (jB_i js1 (jrk_0 so1 ?_))
  refine jw_u rfl (jB_i (by rw [jo1, go1]; rfl) ⟨fun h => (by cases h), ?_⟩)
  iterate 2 refine jw_u rfl ?_
  refine jw_u rfl (jB_i js4 (jrk_0 so4 ?_))
  refine jw_u rfl (jB_i (by rw [jo4, go4]; rfl) ⟨fun h => (by cases h), ?_⟩)
  refine jw_u rfl ?_
  refine jw_u rfl (jB_i js0 (jrk_r (g0 s hs) ?_))
  iterate 2 refine jw_u rfl ?_
  refine jw_u rfl (jB_i jo0 (jrk_r (g0 o ho) ?_))
  iterate 2 refine jw_u rfl ?_
  refine jw_u rfl (jB_i (arr 1 (by simp)) ⟨by decide, by decide, by decide, (cp 1 (by simp)).1, (cp 1 (by simp)).2, ?_⟩)
  refine jw_u rfl ?_
  refine jw_u rfl (jB_i js2 (jrk_r (g2 s hs) ?_))
  iterate 2 refine jw_u rfl ?_
  refine jw_u rfl (jB_i jo2 (jrk_r (g2 o ho) ?_))
  iterate 2 refine jw_u rfl ?_
  refine jw_u rfl (jB_i (arr 2 (by simp)) ⟨by decide, by decide, by decide, (cp 2 (by simp)).1, (cp 2 (by simp)).2, ?_⟩)
  refine jw_u rfl ?_
  refine jw_u rfl (jB_i js3 (jrk_r (g3 s hs) ?_))
  iterate 2 refine jw_u rfl ?_
  refine jw_u rfl (jB_i jo3 (jrk_r (g3 o ho) ?_))
  iterate 2 refine jw_u rfl ?_
  refine jw_u rfl (jB_i (arr 3 (by simp)) ⟨by decide, by decide, by decide, (cp 3 (by simp)).1, (cp 3 (by simp)).2, ?_⟩)
  refine jw_u rfl ?_
  exact h
end CQ5
end
section
/-! THE CLASS: sets, alike, trees, shakes -/
def bt (s p : Nat) : Nat := s / 2 ^ p % 2
theorem bit1 : ∀ s, s < 256 → ∀ p, p < 8 → nI s >>> (nI p &&& 31) &&& nI 1 = nI (bt s p) := by decide +kernel
theorem bit2 : ∀ s, s < 256 → ∀ p, p < 8 → ∀ q, q < 8 → (nI s >>> (nI p &&& 31)) &&& (nI s >>> (nI q &&& 31)) &&& nI 1 = nI (bt s p * bt s q) := by decide +kernel
theorem bt_le (s p : Nat) : bt s p ≤ 1 := by unfold bt; omega
/-- how many of the first i -/
def cA (P : Nat → Bool) : Nat → Nat
  | 0 => 0
  | i + 1 => if P i = true then cA P i + 1 else cA P i
theorem cA_le (P : Nat → Bool) : ∀ i, cA P i ≤ i
  | 0 => Nat.le_refl _
  | i + 1 => by
    have := cA_le P i
    rw [cA]
    split <;> omega
/-- the greatest of the first i -/
def mA (F : Nat → Nat) : Nat → Nat
  | 0 => 0
  | i + 1 => max (mA F i) (F i)
theorem mA_le {F : Nat → Nat} {z : Nat} (h : ∀ k, F k ≤ z) : ∀ i, mA F i ≤ z
  | 0 => Nat.zero_le _
  | i + 1 => Nat.max_le.mpr ⟨mA_le h i, h i⟩
section CQ6
variable {d n : Nat} {x : jM} {Q : Option Value → jM → Prop} {hd sl dr : Nat → Nat}
theorem c_allTold {s : Nat} (hn : x 11 2 = nI n) (h8 : n ≤ 8) (hh : ∀ k, k < n → x 16 k = nI (hd k)) (hs : ∀ k, k < n → x 12 k = nI (sl k)) (bh : ∀ k, k < n → hd k < 1000) (bs : ∀ k, k < n → sl k ≤ 3) (hs2 : s < 256)
    (h1 : (∀ p q, p < q → q < n → bt s p = 1 → bt s q = 1 → nr (hd p) (hd q) (sl p + sl q) = false) → Q (some (.int (nI 1))) x) (h2 : ¬ (∀ p q, p < q → q < n → bt s p = 1 → bt s q = 1 → nr (hd p) (hd q) (sl p + sl q) = false) → Q (some (.int (nI 0))) x) : jo (d + 3) 74 [.ref 0, .int (nI s)] x Q := by
  have loop : ∀ p, p ≤ n → ∀ g3 g4, (∀ p' q', p' < p → p' < q' → q' < n → bt s p' = 1 → bt s q' = 1 → nr (hd p') (hd q') (sl p' + sl q') = false) → jw (d + 2) kX6_allToldApart Q 2 [some (.ref 0), some (.int (nI s)), some (.int (nI p)), g3, g4] [] x := by
    refine dn _ n (fun g3 g4 ha => ?_) (fun p hp ih g3 g4 ha => ?_)
    · iterate 4 refine jw_u rfl ?_
      refine jw_u rfl ⟨fun _ => ?_, fun (c' : ¬ x 11 2 ≤ nI n) => absurd (by rw [hn]; exact Int32.le_refl _) c'⟩
      iterate 2 refine jw_u rfl ?_
      exact ⟨fun _ => Or.inr rfl, h1 (fun p q hpq hq => ha p q (by omega) hpq hq)⟩
    · have inner : ∀ q, q ≤ n → ∀ g4, (∀ p' q', (p' < p ∨ (p' = p ∧ q' < q)) → p' < q' → q' < n → bt s p' = 1 → bt s q' = 1 → nr (hd p') (hd q') (sl p' + sl q') = false) → p < q → jw (d + 2) kX6_allToldApart Q 11 [some (.ref 0), some (.int (nI s)), some (.int (nI p)), some (.int (nI q)), g4] [] x := by
        refine dn _ n (fun g4 hb _ => ?_) (fun q hq ihq g4 hb hpq => ?_)
        · iterate 4 refine jw_u rfl ?_
          refine jw_u rfl ⟨fun _ => ?_, fun (c' : ¬ x 11 2 ≤ nI n) => absurd (by rw [hn]; exact Int32.le_refl _) c'⟩
          iterate 2 refine jw_u rfl ?_
          have := ih (some (.int (nI n))) g4 (fun p' q' h1 h2 h3 => hb p' q' (by omega) h2 h3)
          rw [nI_s p] at this
          exact this
        · iterate 4 refine jw_u rfl ?_
          refine jw_u rfl ⟨fun (c' : x 11 2 ≤ nI q) => absurd c' (by rw [hn]; exact nI_ge hq (by omega)), fun _ => ?_⟩
          iterate 9 refine jw_u rfl ?_
          refine jtop (bit2 s hs2 p (by omega) q (by omega)) ?_
          refine jw_u rfl ?_
          have b1 := bt_le s p
          have b2 := bt_le s q
          have e12 : bt s p * bt s q ≤ 1 := Nat.le_trans (Nat.mul_le_mul b1 b2) (by decide)
          refine jw_u rfl ⟨fun (c' : ¬ nI (bt s p * bt s q) = nI 1) => ?_, fun (c' : nI (bt s p * bt s q) = nI 1) => ?_⟩
          · rw [nI_eq (by omega) (by decide)] at c'
            iterate 3 refine jw_u rfl ?_
            refine jw_u rfl ⟨fun _ => ?_, fun c => absurd n00 c⟩
            iterate 2 refine jw_u rfl ?_
            have := ihq (some (.int (nI 0))) (fun p' q' h3 h4 h5 h6 h7 => by
              by_cases e : p' = p ∧ q' = q
              · obtain ⟨rfl, rfl⟩ := e
                exact absurd (by rw [h6, h7]) c'
              · exact hb p' q' (by omega) h4 h5 h6 h7) (by omega)
            rw [nI_s q] at this
            exact this
          · rw [nI_eq (by omega) (by decide)] at c'
            have f1 : bt s p = 1 := by
              rcases (show bt s p = 0 ∨ bt s p = 1 by omega) with e | e
              · rw [e, Nat.zero_mul] at c'
                omega
              · exact e
            have f2 : bt s q = 1 := by
              rw [f1, Nat.one_mul] at c'
              exact c'
            iterate 4 refine jw_u rfl ?_
            refine jw_u rfl ⟨fun c => absurd c n10, fun _ => ?_⟩
            iterate 6 refine jw_u rfl ?_
            refine c_toldApart (Or.inl rfl) h8 hh hs bh bs (by omega) hq (fun hw => ?_) (fun hw => ?_)
            · refine jw_u rfl ⟨fun _ => ?_, fun c => absurd c n10⟩
              iterate 2 refine jw_u rfl ?_
              have := ihq (some (.int (nI 1))) (fun p' q' h3 h4 h5 h6 h7 => by
                by_cases e : p' = p ∧ q' = q
                · obtain ⟨rfl, rfl⟩ := e
                  exact hw
                · exact hb p' q' (by omega) h4 h5 h6 h7) (by omega)
              rw [nI_s q] at this
              exact this
            · refine jw_u rfl ⟨fun c => absurd n00 c, fun _ => ?_⟩
              iterate 2 refine jw_u rfl ?_
              exact ⟨fun _ => Or.inl rfl, h2 (fun hc => absurd (hc p q hpq hq f1 f2) (by rw [hw]; decide))⟩
      iterate 4 refine jw_u rfl ?_
      refine jw_u rfl ⟨fun (c' : x 11 2 ≤ nI p) => absurd c' (by rw [hn]; exact nI_ge hp (by omega)), fun _ => ?_⟩
      iterate 3 refine jw_u rfl ?_
      refine jtop (nI_add _ _) ?_
      refine jw_u rfl ?_
      exact inner (p + 1) hp g4 (fun p' q' h3 h4 h5 h6 h7 => ha p' q' (by omega) h4 h5 h6 h7) (Nat.lt_succ_self _)
  refine jo_i rfl rfl (Nat.le_of_ble_eq_true rfl) ?_
  iterate 2 refine jw_u rfl ?_
  exact loop 0 (Nat.zero_le _) none none (fun p' q' h3 => absurd h3 (Nat.not_lt_zero _))
theorem c_alike {s w : Nat} (hn : x 11 2 = nI n) (h8 : n ≤ 8) (hh : ∀ k, k < n → x 16 k = nI (hd k)) (bh : ∀ k, k < n → hd k < 1000) (hs2 : s < 256) (hw : w < 3)
    (h : Q (some (.int (nI (mA (fun f => cA (fun p => bt s p == 1 && dg (hd p) w == f) n) 10)))) x) : jo (d + 2) 79 [.ref 0, .int (nI s), .int (nI w)] x Q := by
  have bm : ∀ i, mA (fun f => cA (fun p => bt s p == 1 && dg (hd p) w == f) n) i ≤ 8 := mA_le (fun k => Nat.le_trans (cA_le _ n) h8)
  have loop : ∀ f, f ≤ 10 → ∀ g5 g6, jw (d + 1) kX6_greatestAlike Q 4 [some (.ref 0), some (.int (nI s)), some (.int (nI w)), some (.int (nI (mA (fun f => cA (fun p => bt s p == 1 && dg (hd p) w == f) n) f))), some (.int (nI f)), g5, g6] [] x := by
    refine dn _ 10 (fun g5 g6 => ?_) (fun f hf ih g5 g6 => ?_)
    · iterate 2 refine jw_u rfl ?_
      refine jw_u rfl ⟨fun _ => ?_, fun (c' : ¬ nI 10 ≤ nI 10) => absurd (Int32.le_refl _) c'⟩
      iterate 2 refine jw_u rfl ?_
      exact ⟨fun h => (by cases h), h⟩
    · have b1 := bm f
      have inner : ∀ p, p ≤ n → jw (d + 1) kX6_greatestAlike Q 11 [some (.ref 0), some (.int (nI s)), some (.int (nI w)), some (.int (nI (mA (fun f => cA (fun p => bt s p == 1 && dg (hd p) w == f) n) f))), some (.int (nI f)), some (.int (nI (cA (fun p => bt s p == 1 && dg (hd p) w == f) p))), some (.int (nI p))] [] x := by
        refine dn _ n ?_ (fun p hp ihp => ?_)
        · have b2 := cA_le (fun p => bt s p == 1 && dg (hd p) w == f) n
          iterate 4 refine jw_u rfl ?_
          refine jw_u rfl ⟨fun _ => ?_, fun (c' : ¬ x 11 2 ≤ nI n) => absurd (by rw [hn]; exact Int32.le_refl _) c'⟩
          iterate 3 refine jw_u rfl ?_
          refine jtop (mx_nI (by omega) (by omega)) ?_
          iterate 3 refine jw_u rfl ?_
          have := ih (some (.int (nI (cA (fun p => bt s p == 1 && dg (hd p) w == f) n)))) (some (.int (nI n)))
          rw [nI_s f, mA] at this
          exact this
        · have b3 : dg (hd p) w < 10 := dg_lt (bh p hp)
          iterate 4 refine jw_u rfl ?_
          refine jw_u rfl ⟨fun (c' : x 11 2 ≤ nI p) => absurd c' (by rw [hn]; exact nI_ge hp (by omega)), fun _ => ?_⟩
          iterate 5 refine jw_u rfl ?_
          refine jtop (bit1 s hs2 p (by omega)) ?_
          refine jw_u rfl ?_
          have b2 := bt_le s p
          refine jw_u rfl ⟨fun (c' : ¬ nI (bt s p) = nI 1) => ?_, fun (c' : nI (bt s p) = nI 1) => ?_⟩
          · rw [nI_eq (by omega) (by decide)] at c'
            iterate 2 refine jw_u rfl ?_
            rw [nI_s p, cA, if_neg (by simp [c'])] at ihp
            exact ihp
          · rw [nI_eq (by omega) (by decide)] at c'
            iterate 4 refine jw_u rfl ?_
            refine jw_u rfl (jaN (show p < 8 by omega) (by decide) (hh p hp) ?_)
            iterate 2 refine jw_u rfl ?_
            refine c_part (bh p hp) hw ?_
            refine jw_u rfl ?_
            refine jw_u rfl ⟨fun (c2 : ¬ nI (dg (hd p) w) = nI f) => ?_, fun (c2 : nI (dg (hd p) w) = nI f) => ?_⟩
            · rw [nI_eq (by omega) (by omega)] at c2
              iterate 2 refine jw_u rfl ?_
              rw [nI_s p, cA, if_neg (by simp [c2])] at ihp
              exact ihp
            · rw [nI_eq (by omega) (by omega)] at c2
              iterate 3 refine jw_u rfl ?_
              rw [nI_s p, cA, if_pos (by simp [c', c2]), nI_s (cA _ p)] at ihp
              exact ihp
      iterate 2 refine jw_u rfl ?_
      refine jw_u rfl ⟨fun (c' : nI 10 ≤ nI f) => absurd c' (nI_ge hf (by omega)), fun _ => ?_⟩
      iterate 4 refine jw_u rfl ?_
      exact inner 0 (Nat.zero_le _)
  refine jo_i rfl rfl (Nat.le_of_ble_eq_true rfl) ?_
  iterate 4 refine jw_u rfl ?_
  exact loop 0 (Nat.zero_le _) none none
end CQ6
end
section
/-! PAIRS, in the order of the loops; the next of a tree; how groups are joined -/
def rwp (n p q : Nat) : List (Nat × Nat) := (List.range' q (n - q)).map (fun j => (p, j))
def rsp (n p : Nat) : List (Nat × Nat) := (List.range' p (n - p)).flatMap (fun i => rwp n i (i + 1))
theorem rwp_c {n p q : Nat} (h : q < n) : rwp n p q = (p, q) :: rwp n p (q + 1) := by
  unfold rwp
  rw [show n - q = (n - (q + 1)) + 1 by omega, List.range'_succ, List.map_cons]
theorem rwp_n {n p q : Nat} (h : n ≤ q) : rwp n p q = [] := by
  unfold rwp
  rw [show n - q = 0 by omega]
  rfl
theorem rsp_c {n p : Nat} (h : p < n) : rsp n p = rwp n p (p + 1) ++ rsp n (p + 1) := by
  unfold rsp
  rw [show n - p = (n - (p + 1)) + 1 by omega, List.range'_succ, List.flatMap_cons]
theorem rsp_n {n p : Nat} (h : n ≤ p) : rsp n p = [] := by
  unfold rsp
  rw [show n - p = 0 by omega]
  rfl
theorem rwp_mem {n p q a b : Nat} : (a, b) ∈ rwp n p q ↔ a = p ∧ q ≤ b ∧ b < n := by
  simp only [rwp, List.mem_map, List.mem_range'_1, Prod.mk.injEq]
  constructor
  · rintro ⟨j, ⟨h1, h2⟩, h3, h4⟩
    omega
  · rintro ⟨h1, h2, h3⟩
    exact ⟨b, ⟨by omega, by omega⟩, h1.symm, rfl⟩
theorem rsp_mem {n p a b : Nat} : (a, b) ∈ rsp n p ↔ p ≤ a ∧ a < b ∧ b < n := by
  simp only [rsp, List.mem_flatMap, List.mem_range'_1, rwp_mem]
  constructor
  · rintro ⟨i, ⟨h1, h2⟩, h3, h4, h5⟩
    omega
  · rintro ⟨h1, h2, h3⟩
    exact ⟨a, ⟨by omega, by omega⟩, rfl, by omega, h3⟩
/-- the pair nearest so far -/
def ts (G hd : Nat → Nat) (o : Option (Nat × Nat)) (q : Nat × Nat) : Option (Nat × Nat) := match o with
  | none => if G q.1 = G q.2 then none else some q
  | some a => if G q.1 = G q.2 then some a else if ap (hd q.1) (hd q.2) < ap (hd a.1) (hd a.2) then some q else some a
def nx (G hd : Nat → Nat) (n : Nat) : Option (Nat × Nat) := (rsp n 0).foldl (ts G hd) none
def cI (o : Option (Nat × Nat)) : Int32 := match o with
  | none => -1
  | some a => nI (10 * a.1 + a.2)
def lI (hd : Nat → Nat) (z : Nat) (o : Option (Nat × Nat)) : Nat := match o with
  | none => z
  | some a => ap (hd a.1) (hd a.2)
theorem ts_some {G hd : Nat → Nat} : ∀ {l : List (Nat × Nat)} {o : Option (Nat × Nat)} {a : Nat × Nat}, l.foldl (ts G hd) o = some a → o = some a ∨ (a ∈ l ∧ G a.1 ≠ G a.2)
  | [], o, a, h => Or.inl h
  | q :: l, o, a, h => by
    rcases ts_some (l := l) h with h1 | h1
    · unfold ts at h1
      split at h1
      · split at h1
        · cases h1
        · next hg => cases h1; exact Or.inr ⟨List.mem_cons_self, hg⟩
      · split at h1
        · exact Or.inl h1
        · next hg =>
          split at h1
          · cases h1; exact Or.inr ⟨List.mem_cons_self, hg⟩
          · exact Or.inl h1
    · exact Or.inr ⟨List.mem_cons_of_mem _ h1.1, h1.2⟩
theorem ts_none {G hd : Nat → Nat} : ∀ {l : List (Nat × Nat)} {o : Option (Nat × Nat)}, l.foldl (ts G hd) o = none → o = none ∧ ∀ q ∈ l, G q.1 = G q.2
  | [], o, h => ⟨h, fun q hq => absurd hq List.not_mem_nil⟩
  | q :: l, o, h => by
    obtain ⟨h1, h2⟩ := ts_none (l := l) h
    unfold ts at h1
    split at h1
    · split at h1
      · next hg => exact ⟨rfl, fun q' hq => (List.mem_cons.mp hq).elim (fun e => e ▸ hg) (h2 q')⟩
      · cases h1
    · split at h1
      · cases h1
      · split at h1 <;> cases h1
theorem nx_some {G hd : Nat → Nat} {n : Nat} {a : Nat × Nat} (h : nx G hd n = some a) : a.1 < a.2 ∧ a.2 < n ∧ G a.1 ≠ G a.2 := by
  rcases ts_some h with h1 | ⟨h1, h2⟩
  · cases h1
  · have := rsp_mem.mp (show (a.1, a.2) ∈ rsp n 0 from h1)
    exact ⟨this.2.1, this.2.2, h2⟩
def jnG (G : Nat → Nat) (a : Nat × Nat) : Nat → Nat := fun k => if G k = G a.2 then G a.1 else G k
/-- groups, and the sum, after t joins -/
def tG (hd : Nat → Nat) (n : Nat) : Nat → (Nat → Nat)
  | 0 => fun k => k
  | t + 1 => match nx (tG hd n t) hd n with
    | none => tG hd n t
    | some a => jnG (tG hd n t) a
def tA (hd : Nat → Nat) (n : Nat) : Nat → Nat
  | 0 => 0
  | t + 1 => tA hd n t + lI hd 0 (nx (tG hd n t) hd n)
theorem cA_ext {P P' : Nat → Bool} : ∀ {n : Nat}, (∀ k, k < n → P k = P' k) → cA P n = cA P' n
  | 0, _ => rfl
  | n + 1, h => by rw [cA, cA, h n (Nat.lt_succ_self _), cA_ext (fun k hk => h k (Nat.lt_succ_of_lt hk))]
theorem cA_rm {P P' : Nat → Bool} {z : Nat} : ∀ {n : Nat}, z < n → P z = true → (∀ k, k < n → P' k = (P k && k != z)) → cA P' n + 1 = cA P n
  | 0, hz, _, _ => absurd hz (Nat.not_lt_zero _)
  | n + 1, hz, hp, h => by
    rw [cA, cA]
    by_cases e : z = n
    · subst e
      have h1 := h z (Nat.lt_succ_self _)
      rw [hp] at h1
      have h2 : P' z = false := by simpa using h1
      rw [h2, hp, if_pos rfl, if_neg (by decide)]
      rw [cA_ext (P := P') (P' := P) (fun k hk => by rw [h k (Nat.lt_succ_of_lt hk)]; have : (k != z) = true := by simp; omega
                                                     simp [this])]
    · have h1 := h n (Nat.lt_succ_self _)
      have h3 : (n != z) = true := by simp; omega
      rw [h3, Bool.and_true] at h1
      rw [h1]
      have ih := cA_rm (P := P) (P' := P') (n := n) (by omega) hp (fun k hk => h k (Nat.lt_succ_of_lt hk))
      split <;> omega
theorem cA_two {P : Nat → Bool} : ∀ {n : Nat}, 2 ≤ cA P n → ∃ a b, a < b ∧ b < n ∧ P a = true ∧ P b = true
  | 0, h => absurd (show 2 ≤ 0 from h) (by decide)
  | n + 1, h => by
    rw [cA] at h
    by_cases hp : P n = true
    · rw [if_pos hp] at h
      have h1 : 1 ≤ cA P n := by omega
      obtain ⟨a, ha, hpa⟩ : ∃ a, a < n ∧ P a = true := by
        clear h hp
        induction n with
        | zero => exact absurd (show 1 ≤ 0 from h1) (by decide)
        | succ n ih =>
          rw [cA] at h1
          by_cases hp : P n = true
          · exact ⟨n, Nat.lt_succ_self _, hp⟩
          · rw [if_neg hp] at h1
            obtain ⟨a, ha, hpa⟩ := ih h1
            exact ⟨a, Nat.lt_succ_of_lt ha, hpa⟩
      exact ⟨a, n, ha, Nat.lt_succ_self _, hpa, hp⟩
    · rw [if_neg hp] at h
      obtain ⟨a, b, h1, h2, h3⟩ := cA_two h
      exact ⟨a, b, h1, Nat.lt_succ_of_lt h2, h3⟩
theorem cA_all {P : Nat → Bool} : ∀ {n : Nat}, (∀ k, k < n → P k = true) → cA P n = n
  | 0, _ => rfl
  | n + 1, h => by rw [cA, if_pos (h n (Nat.lt_succ_self _)), cA_all (fun k hk => h k (Nat.lt_succ_of_lt hk))]
/-- as long as fewer than n - 1 are joined there is a next pair -/
theorem tG_inv (hd : Nat → Nat) (n : Nat) : ∀ t, t < n ∨ t = 0 → (∀ k, k < n → tG hd n t k < n ∧ tG hd n t (tG hd n t k) = tG hd n t k) ∧ cA (fun k => tG hd n t k == k) n + t = n
  | 0, _ => ⟨fun k hk => ⟨hk, rfl⟩, by rw [cA_all (fun k _ => by simp [tG])]; rfl⟩
  | t + 1, h => by
    have h : t + 1 < n := by omega
    obtain ⟨h1, h2⟩ := tG_inv hd n t (by omega)
    obtain ⟨p, q, hpq, hq, hp1, hq1⟩ := cA_two (P := fun k => tG hd n t k == k) (n := n) (by omega)
    have hp2 : tG hd n t p = p := by simpa using hp1
    have hq2 : tG hd n t q = q := by simpa using hq1
    cases hx : nx (tG hd n t) hd n with
    | none =>
      have := (ts_none hx).2 (p, q) (rsp_mem.mpr ⟨Nat.zero_le _, hpq, hq⟩)
      have e : tG hd n t p = tG hd n t q := this
      omega
    | some a =>
      obtain ⟨g1, g2, g3⟩ := nx_some hx
      have e : tG hd n (t + 1) = jnG (tG hd n t) a := by rw [tG, hx]
      rw [e]
      generalize tG hd n t = G at *
      have i1 := h1 a.1 (by omega)
      have i2 := h1 a.2 g2
      refine ⟨fun k hk => ?_, ?_⟩
      · have ik := h1 k hk
        unfold jnG
        by_cases c : G k = G a.2
        · simp only [c, if_true]
          refine ⟨i1.1, ?_⟩
          rw [i1.2]
          simp [g3]
        · simp only [c, if_false]
          refine ⟨ik.1, ?_⟩
          rw [ik.2]
          simp [c]
      · have hr := cA_rm (P := fun k => G k == k) (P' := fun k => jnG G a k == k) (z := G a.2) (n := n) i2.1 (by simp [i2.2]) (fun k hk => by
          have ik := h1 k hk
          unfold jnG
          by_cases c : G k = G a.2
          · simp only [c, if_true]
            have : ¬ G a.1 = k := by
              intro e
              rw [← e, i1.2] at c
              exact g3 c
            have c2 : (G a.1 == k) = false := by simp [this]
            rw [c2]
            by_cases e : G a.2 = k
            · simp [e]
            · have : (G a.2 == k) = false := by simp [e]
              rw [this]
              rfl
          · simp only [c, if_false]
            by_cases e : G k = k
            · have e2 : (k != G a.2) = true := by
                simp
                intro e3
                rw [e3] at e
                rw [e3] at c
                exact c i2.2
              rw [e2, Bool.and_true]
            · have : (G k == k) = false := by simp [e]
              rw [this]
              rfl)
        omega
theorem tG_next (hd : Nat → Nat) {n t : Nat} (h : t + 1 < n) : ∃ a, nx (tG hd n t) hd n = some a := by
  obtain ⟨h1, h2⟩ := tG_inv hd n t (by omega)
  obtain ⟨p, q, hpq, hq, hp1, hq1⟩ := cA_two (P := fun k => tG hd n t k == k) (n := n) (by omega)
  cases hx : nx (tG hd n t) hd n with
  | none =>
    have := (ts_none hx).2 (p, q) (rsp_mem.mpr ⟨Nat.zero_le _, hpq, hq⟩)
    have e : tG hd n t p = tG hd n t q := this
    have hp2 : tG hd n t p = p := by simpa using hp1
    have hq2 : tG hd n t q = q := by simpa using hq1
    omega
  | some a => exact ⟨a, rfl⟩
theorem tG_lt (hd : Nat → Nat) {n t k : Nat} (h : t < n) (hk : k < n) : tG hd n t k < n := ((tG_inv hd n t (Or.inl h)).1 k hk).1
end
section
/-! THE CLASS: the next of a tree, joins, trees, first clash -/
theorem lI_le {hd : Nat → Nat} {n : Nat} {o : Option (Nat × Nat)} (bh : ∀ k, k < n → hd k < 1000) (hv : ∀ a, o = some a → a.1 < n ∧ a.2 < n) : lI hd 100 o ≤ 100 := by
  cases o with
  | none => exact Nat.le_refl _
  | some a =>
    obtain ⟨h1, h2⟩ := hv a rfl
    have := ap_lt (bh _ h1) (bh _ h2)
    show ap _ _ ≤ 100
    omega
theorem ts_vl {G hd : Nat → Nat} {n : Nat} {o : Option (Nat × Nat)} {q : Nat × Nat} (hv : ∀ a, o = some a → a.1 < n ∧ a.2 < n) (hq : q.1 < n ∧ q.2 < n) : ∀ a, ts G hd o q = some a → a.1 < n ∧ a.2 < n := by
  intro a h
  rcases ts_some (l := [q]) (o := o) h with h1 | ⟨h1, -⟩
  · exact hv a h1
  · have := List.mem_singleton.mp h1
    exact this ▸ hq
section CQ7
variable {d n : Nat} {x : jM} {Q : Option Value → jM → Prop} {hd sl : Nat → Nat} {G : Nat → Nat}
set_option maxHeartbeats 1000000 in
theorem c_nextOfTree (hn : x 11 2 = nI n) (h8 : n ≤ 8) (hh : ∀ k, k < n → x 16 k = nI (hd k)) (bh : ∀ k, k < n → hd k < 1000) (hG : ∀ k, k < n → x 120 k = nI (G k)) (bG : ∀ k, k < n → G k < n) (h : Q (some (.int (cI (nx G hd n)))) x) : jo (d + 2) 76 [.ref 0] x Q := by
  have loop : ∀ p, p ≤ n → ∀ o g4 g5, (∀ a, o = some a → a.1 < n ∧ a.2 < n) → Q (some (.int (cI ((rsp n p).foldl (ts G hd) o)))) x → jw (d + 1) kX6_nextOfTree Q 6 [some (.ref 0), some (.int (cI o)), some (.int (nI (lI hd 100 o))), some (.int (nI p)), g4, g5] [] x := by
    refine dn _ n (fun o g4 g5 hv hq => ?_) (fun p hp ih o g4 g5 hv hq => ?_)
    · rw [rsp_n (Nat.le_refl _)] at hq
      iterate 4 refine jw_u rfl ?_
      refine jw_u rfl ⟨fun _ => ?_, fun (c' : ¬ x 11 2 ≤ nI n) => absurd (by rw [hn]; exact Int32.le_refl _) c'⟩
      iterate 2 refine jw_u rfl ?_
      exact ⟨fun h => (by cases h), hq⟩
    · have inner : ∀ q, q ≤ n → p < q → ∀ o g5, (∀ a, o = some a → a.1 < n ∧ a.2 < n) → Q (some (.int (cI ((rwp n p q ++ rsp n (p + 1)).foldl (ts G hd) o)))) x → jw (d + 1) kX6_nextOfTree Q 15 [some (.ref 0), some (.int (cI o)), some (.int (nI (lI hd 100 o))), some (.int (nI p)), some (.int (nI q)), g5] [] x := by
        refine dn _ n (fun _ o g5 hv hq => ?_) (fun q hq' ihq hpq o g5 hv hq => ?_)
        · rw [rwp_n (Nat.le_refl _), List.nil_append] at hq
          iterate 4 refine jw_u rfl ?_
          refine jw_u rfl ⟨fun _ => ?_, fun (c' : ¬ x 11 2 ≤ nI n) => absurd (by rw [hn]; exact Int32.le_refl _) c'⟩
          iterate 2 refine jw_u rfl ?_
          have := ih o (some (.int (nI n))) g5 hv hq
          rw [nI_s p] at this
          exact this
        · rw [rwp_c hq', List.cons_append, List.foldl_cons] at hq
          have b1 := ap_lt (bh p hp) (bh q hq')
          have b2 := lI_le bh hv
          have b3 := bG p hp
          have b4 := bG q hq'
          have ihq := ihq (by omega) (ts G hd o (p, q)) (some (.int (nI (ap (hd p) (hd q))))) (ts_vl hv ⟨hp, hq'⟩) hq
          rw [nI_s q] at ihq
          iterate 4 refine jw_u rfl ?_
          refine jw_u rfl ⟨fun (c' : x 11 2 ≤ nI q) => absurd c' (by rw [hn]; exact nI_ge hq' (by omega)), fun _ => ?_⟩
          iterate 4 refine jw_u rfl ?_
          refine jw_u rfl (jaN (show p < 8 by omega) (by decide) (hh p hp) ?_)
          iterate 4 refine jw_u rfl ?_
          refine jw_u rfl (jaN (show q < 8 by omega) (by decide) (hh q hq') ?_)
          refine jw_u rfl ?_
          refine c_apart (bh p hp) (bh q hq') ?_
          iterate 4 refine jw_u rfl ?_
          refine jw_u rfl (jaN (show p < 8 by omega) (by decide) (hG p hp) ?_)
          iterate 3 refine jw_u rfl ?_
          refine jw_u rfl (jaN (show q < 8 by omega) (by decide) (hG q hq') ?_)
          refine jw_u rfl ⟨fun (c' : nI (G p) = nI (G q)) => ?_, fun (c' : ¬ nI (G p) = nI (G q)) => ?_⟩
          · rw [nI_eq (by omega) (by omega)] at c'
            iterate 2 refine jw_u rfl ?_
            have e : ts G hd o (p, q) = o := by
              unfold ts
              cases o <;> simp [c']
            rw [e] at ihq
            exact ihq
          rw [nI_eq (by omega) (by omega)] at c'
          iterate 2 refine jw_u rfl ?_
          refine jw_u rfl ⟨fun (c2 : nI (lI hd 100 o) ≤ nI (ap (hd p) (hd q))) => ?_, fun (c2 : ¬ nI (lI hd 100 o) ≤ nI (ap (hd p) (hd q))) => ?_⟩
          · rw [nI_leI (by omega) (by omega)] at c2
            iterate 2 refine jw_u rfl ?_
            have e : ts G hd o (p, q) = o := by
              unfold ts
              cases o with
              | none => exact absurd (show 100 ≤ _ from c2) (by omega)
              | some a =>
                have c2 : ap (hd a.1) (hd a.2) ≤ ap (hd p) (hd q) := c2
                simp [c', Nat.not_lt.mpr c2]
            rw [e] at ihq
            exact ihq
          · rw [nI_leI (by omega) (by omega)] at c2
            have e : ts G hd o (p, q) = some (p, q) := by
              unfold ts
              cases o with
              | none => simp [c']
              | some a =>
                have c2 : ap (hd p) (hd q) < ap (hd a.1) (hd a.2) := Nat.not_le.mp c2
                simp [c', c2]
            rw [e] at ihq
            iterate 5 refine jw_u rfl ?_
            refine jtop (pk_mul 10 p) ?_
            iterate 2 refine jw_u rfl ?_
            refine jtop (nI_add _ _) ?_
            iterate 3 refine jw_u rfl ?_
            exact ihq
      rw [rsp_c hp] at hq
      iterate 4 refine jw_u rfl ?_
      refine jw_u rfl ⟨fun (c' : x 11 2 ≤ nI p) => absurd c' (by rw [hn]; exact nI_ge hp (by omega)), fun _ => ?_⟩
      iterate 3 refine jw_u rfl ?_
      refine jtop (nI_add _ _) ?_
      refine jw_u rfl ?_
      exact inner (p + 1) hp (Nat.lt_succ_self _) o g5 hv hq
  refine jo_i rfl rfl (Nat.le_of_ble_eq_true rfl) ?_
  iterate 6 refine jw_u rfl ?_
  exact loop 0 (Nat.zero_le _) none none none (fun a h => by cases h) h
theorem c_joinGroups {a : Nat × Nat} (hn : x 11 2 = nI n) (h8 : n ≤ 8) (hG : ∀ k, k < n → x 120 k = nI (G k)) (bG : ∀ k, k < n → G k < n) (h1 : a.1 < n) (h2 : a.2 < n)
    (h : ∀ x', (∀ i, i ≠ 120 → x' i = x i) → (∀ k, k < n → x' 120 k = nI (jnG G a k)) → Q none x') : jo (d + 1) 77 [.ref 0, .int (nI a.1), .int (nI a.2)] x Q := by
  have loop : ∀ i, i ≤ n → ∀ x1, (∀ i, i ≠ 120 → x1 i = x i) → (∀ k, k < n → x1 120 k = nI (if k < i then jnG G a k else G k)) → jw d kX6_joinGroups Q 12 [some (.ref 0), some (.int (nI a.1)), some (.int (nI a.2)), some (.int (nI (G a.2))), some (.int (nI (G a.1))), some (.int (nI i))] [] x1 := by
    refine dn _ n (fun x1 e1 e2 => ?_) (fun i hi ih x1 e1 e2 => ?_)
    · have e11 : x1 11 2 = nI n := by rw [e1 11 (by decide)]; exact hn
      iterate 4 refine jw_u rfl ?_
      refine jw_u rfl ⟨fun _ => ?_, fun (c' : ¬ x1 11 2 ≤ nI n) => absurd (by rw [e11]; exact Int32.le_refl _) c'⟩
      refine jw_u rfl ?_
      exact h x1 e1 (fun k hk => by rw [e2 k hk, if_pos hk])
    · have e11 : x1 11 2 = nI n := by rw [e1 11 (by decide)]; exact hn
      have ei : x1 120 i = nI (G i) := by rw [e2 i hi, if_neg (Nat.lt_irrefl _)]
      have b1 := bG i hi
      have b2 := bG _ h2
      iterate 4 refine jw_u rfl ?_
      refine jw_u rfl ⟨fun (c' : x1 11 2 ≤ nI i) => absurd c' (by rw [e11]; exact nI_ge hi (by omega)), fun _ => ?_⟩
      iterate 3 refine jw_u rfl ?_
      refine jw_u rfl (jaN (show i < 8 by omega) (by decide) ei ?_)
      refine jw_u rfl ?_
      refine jw_u rfl ⟨fun (c' : ¬ nI (G i) = nI (G a.2)) => ?_, fun (c' : nI (G i) = nI (G a.2)) => ?_⟩
      · rw [nI_eq (by omega) (by omega)] at c'
        iterate 2 refine jw_u rfl ?_
        rw [← show nI (i + 1) = nI i + jc 1 from nI_s i]
        refine ih x1 e1 (fun k hk => ?_)
        rw [e2 k hk]
        by_cases e : k = i
        · subst e
          rw [if_neg (Nat.lt_irrefl _), if_pos (Nat.lt_succ_self _)]
          simp [jnG, c']
        · by_cases h9 : k < i
          · rw [if_pos h9, if_pos (by omega)]
          · rw [if_neg h9, if_neg (by omega)]
      · rw [nI_eq (by omega) (by omega)] at c'
        iterate 4 refine jw_u rfl ?_
        refine jw_u rfl (jsN (show i < 8 by omega) (by decide) ?_)
        iterate 2 refine jw_u rfl ?_
        rw [← show nI (i + 1) = nI i + jc 1 from nI_s i]
        refine ih _ (fun k hk => ?_) (fun k hk => ?_)
        · rw [ju_oo hk]
          exact e1 k hk
        · by_cases e : k = i
          · subst e
            rw [ju_s, if_pos (Nat.lt_succ_self _)]
            simp [jnG, c']
          · rw [ju_k e, e2 k hk]
            by_cases h9 : k < i
            · rw [if_pos h9, if_pos (by omega)]
            · rw [if_neg h9, if_neg (by omega)]
  refine jo_i rfl rfl (Nat.le_of_ble_eq_true rfl) ?_
  iterate 3 refine jw_u rfl ?_
  refine jw_u rfl (jaN (show a.2 < 8 by omega) (by decide) (hG _ h2) ?_)
  iterate 4 refine jw_u rfl ?_
  refine jw_u rfl (jaN (show a.1 < 8 by omega) (by decide) (hG _ h1) ?_)
  iterate 3 refine jw_u rfl ?_
  exact loop 0 (Nat.zero_le _) x (fun _ _ => rfl) (fun k hk => by rw [if_neg (Nat.not_lt_zero _)]; exact hG k hk)
end CQ7
end
section
/-! WHAT THE STATE IS: the clan, a state, as numbers; what the class's cells say of them -/
abbrev aC : Type := Nat × Nat × Nat × Nat × (Nat → Nat) × (Nat → Nat) × (Nat → Nat)
abbrev cT (C : aC) : Nat := C.1
abbrev cG (C : aC) : Nat := C.2.1
abbrev cN (C : aC) : Nat := C.2.2.1
abbrev cC (C : aC) : Nat := C.2.2.2.1
abbrev cSl (C : aC) : Nat → Nat := C.2.2.2.2.1
abbrev cDr (C : aC) : Nat → Nat := C.2.2.2.2.2.1
abbrev cSq (C : aC) : Nat → Nat := C.2.2.2.2.2.2
abbrev aS : Type := (Nat → Nat) × Nat × (Nat → Nat) × (Nat → Nat) × Nat
abbrev sH (S : aS) : Nat → Nat := S.1
abbrev sP (S : aS) : Nat := S.2.1
abbrev sM (S : aS) : Nat → Nat := S.2.2.1
abbrev sN (S : aS) : Nat → Nat := S.2.2.2.1
abbrev sY (S : aS) : Nat := S.2.2.2.2
def wC (C : aC) : Prop := cT C ≤ 1 ∧ cG C < 1000 ∧ cN C ≤ 8 ∧ cC C ≤ 4 ∧ (∀ k, k < cN C → cSl C k ≤ 3) ∧ (∀ k, k < cN C → cDr C k ≤ 2) ∧ (∀ k, k < cC C → cSq C k < 1000)
def wS (n : Nat) (S : aS) : Prop := (∀ k, k < n → sH S k < 1000) ∧ sP S ≤ 8 ∧ (∀ k, k < sP S → sM S k < 1000) ∧ (∀ k, k < sP S → sN S k < n) ∧ sY S ≤ 9060
/-- the class's clan at the cell o -/
def xC (x : jM) (o : Nat) (C : aC) : Prop := x o 0 = nI (cT C) ∧ x o 1 = nI (cG C) ∧ x o 2 = nI (cN C) ∧ x o 5 = nI (cC C) ∧ (∀ k, k < cN C → x (o + 1) k = nI (cSl C k)) ∧ (∀ k, k < cN C → x (o + 2) k = nI (cDr C k)) ∧ (∀ k, k < cC C → x (o + 3) k = nI (cSq C k))
/-- the class's state at the cell o -/
def xS (x : jM) (o n : Nat) (S : aS) : Prop := (∀ k, k < n → x (o + 1) k = nI (sH S k)) ∧ x o 1 = nI (sP S) ∧ (∀ k, k < sP S → x (o + 2) k = nI (sM S k)) ∧ (∀ k, k < sP S → x (o + 3) k = nI (sN S k)) ∧ x o 4 = nI (sY S)
theorem xC_f {x x' : jM} {o : Nat} {C : aC} (h : ∀ i, o ≤ i → i ≤ o + 3 → x' i = x i) (hC : xC x o C) : xC x' o C := by
  obtain ⟨h1, h2, h3, h4, h5, h6, h7⟩ := hC
  refine ⟨?_, ?_, ?_, ?_, fun k hk => ?_, fun k hk => ?_, fun k hk => ?_⟩
  · rw [h o (by omega) (by omega)]; exact h1
  · rw [h o (by omega) (by omega)]; exact h2
  · rw [h o (by omega) (by omega)]; exact h3
  · rw [h o (by omega) (by omega)]; exact h4
  · rw [h (o + 1) (by omega) (by omega)]; exact h5 k hk
  · rw [h (o + 2) (by omega) (by omega)]; exact h6 k hk
  · rw [h (o + 3) (by omega) (by omega)]; exact h7 k hk
theorem xS_f {x x' : jM} {o n : Nat} {S : aS} (h : ∀ i, o ≤ i → i ≤ o + 3 → x' i = x i) (hS : xS x o n S) : xS x' o n S := by
  obtain ⟨h1, h2, h3, h4, h5⟩ := hS
  refine ⟨fun k hk => ?_, ?_, fun k hk => ?_, fun k hk => ?_, ?_⟩
  · rw [h (o + 1) (by omega) (by omega)]; exact h1 k hk
  · rw [h o (by omega) (by omega)]; exact h2
  · rw [h (o + 2) (by omega) (by omega)]; exact h3 k hk
  · rw [h (o + 3) (by omega) (by omega)]; exact h4 k hk
  · rw [h o (by omega) (by omega)]; exact h5
theorem xS_cp {x : jM} {o s n : Nat} {S : aS} (hd : o + 3 < s ∨ s + 3 < o) (hn : n ≤ 8) (hp : sP S ≤ 8) (hS : xS x s n S) : xS (cpS x o s) o n S := by
  obtain ⟨h1, h2, h3, h4, h5⟩ := hS
  refine ⟨fun k hk => ?_, ?_, fun k hk => ?_, fun k hk => ?_, ?_⟩
  · rw [cpS_r hd (Or.inl rfl) (by omega)]; exact h1 k hk
  · rw [cpS_1]; exact h2
  · rw [cpS_r hd (Or.inr (Or.inl rfl)) (by omega)]; exact h3 k hk
  · rw [cpS_r hd (Or.inr (Or.inr rfl)) (by omega)]; exact h4 k hk
  · rw [cpS_4 (by omega)]; exact h5
/-! what the calls answer -/
def kU : Int32 := jc (-1000000001)
def kO : Int32 := jc (-1000000002)
def kX : Int32 := jc (-1000000003)
def kF : Int32 := jc (-1000000004)
theorem jm1 : jc (-1) = (-1 : Int32) := by decide
/-- a set as a number -/
def sn (P : Nat → Bool) : Nat → Nat
  | 0 => 0
  | i + 1 => if P i = true then sn P i + 2 ^ i else sn P i
theorem sn_lt (P : Nat → Bool) : ∀ i, sn P i < 2 ^ i
  | 0 => Nat.lt_succ_self 0
  | i + 1 => by
    have := sn_lt P i
    rw [sn, Nat.pow_succ]
    split <;> omega
theorem or1 : ∀ i, i < 8 → ∀ s, s < 2 ^ i → nI s ||| (nI 1 <<< (nI i &&& 31)) = nI (s + 2 ^ i) := by decide +kernel
theorem sb_sn (P : Nat → Bool) : ∀ i, i ≤ 8 → sb P i = nI (sn P i)
  | 0, _ => rfl
  | i + 1, h => by
    rw [sb, sn, sb_sn P i (by omega)]
    split
    · exact or1 i (by omega) _ (sn_lt P i)
    · rfl
theorem nI_and (a b : Nat) (ha : a < 256) (hb : b < 256) : nI a &&& nI b = nI (a &&& b) := by
  apply Int32.toBitVec_inj.mp
  simp only [nI, Int32.toBitVec_and, Int32.toBitVec_ofNat', ← BitVec.ofNat_and]
def pp (s : Nat) : Nat := cA (fun p => bt s p == 1) 8
/-- the first t from t on, f of them, with P; none: -1 -/
def on1 (P : Nat → Bool) : Nat → Nat → Int32
  | 0, _ => -1
  | f + 1, t => if P t = true then nI t else on1 P f (t + 1)
/-- the i-th of a list of pairs, by its number; -1: how many -/
def rsI (i : Int32) : Nat → List (Nat × Nat) → Int32
  | c, [] => if i = -1 then nI c else -1
  | c, a :: l => if nI c = i then nI (10 * a.1 + a.2) else rsI i (c + 1) l
end
section
/-! THE CLASS: what is asked of it, the small ones -/
/-- what a call on a person, or a paper, or a candidate, or a mark begins with -/
def fTold (C : aC) (S : aS) (tl sc ec hl : Nat) (w : Int) : Int32 :=
  if w = 0 then nI (cT C) else if w = 1 then nI (cG C) else if w = 2 then nI (cN C) else if w = 3 then nI (sP S) else if w = 4 then nI (cC C) else if w = 5 then nI tl else if w = 6 then nI (sY S) else if w = 7 then nI sc else if w = 8 then nI ec else if w = 9 then nI hl else kO
def fPerson (C : aC) (S : aS) (p w : Int32) : Int32 :=
  if 0 ≤ p ∧ p < nI (cN C) then (if w.toInt = 0 then nI (sH S p.toNatClampNeg) else if w.toInt = 1 then nI (cSl C p.toNatClampNeg) else if w.toInt = 2 then nI (cDr C p.toNatClampNeg) else if w.toInt = 3 then nI (ap (sH S p.toNatClampNeg) (cG C)) else kO) else kU
def fPaper (S : aS) (p w : Int32) : Int32 :=
  if 0 ≤ p ∧ p < nI (sP S) then (if w.toInt = 0 then nI (sM S p.toNatClampNeg) else if w.toInt = 1 then nI (sN S p.toNatClampNeg) else kO) else kU
def fCand (C : aC) (p : Int32) : Int32 := if 0 ≤ p ∧ p < nI (cC C) then nI (cSq C p.toNatClampNeg) else kU
abbrev pS (C : aC) (S : aS) (a : Nat) : Nat → Bool := fun j => nr a (sH S j) (cSl C j)
def fWhose (C : aC) (S : aS) (m : Int32) : Int32 := if 0 ≤ m ∧ m < nI 1000 then nI (sn (pS C S m.toNatClampNeg) (cN C)) else kO
def fMarks (C : aC) (S : aS) (p : Int32) : Int32 := if 0 ≤ p ∧ p < nI (cN C) then nI (pcn (sH S p.toNatClampNeg) (cSl C p.toNatClampNeg) 3) else kU
abbrev kn (n : Nat) (hd : Nat → Nat) (p : Nat) : Option Nat := am (fun k => ap (hd p) (hd k)) (fun k => k != p) n
def fKin (C : aC) (S : aS) (p : Int32) : Int32 := if 0 ≤ p ∧ p < nI (cN C) then oI (kn (cN C) (sH S) p.toNatClampNeg) else kU
abbrev ch (C : aC) (a : Nat) : Option Nat := am (fun k => ap a (cSq C k)) (fun _ => true) (cC C)
def fVote (C : aC) (m : Int32) : Int32 := if 0 ≤ m ∧ m < nI 1000 then oI (ch C m.toNatClampNeg) else kO
section CU
variable {d : Nat} {x : jM} {Q : Option Value → jM → Prop} {C : aC} {S : aS}
theorem c_fault (h : Q (some (.int (x 0 9))) x) : jo (d + 1) 26 [.ref 0] x Q := by
  refine jo_i rfl rfl (Nat.le_of_ble_eq_true rfl) ?_
  iterate 3 refine jw_u rfl ?_
  exact ⟨fun h => (by cases h), h⟩
theorem c_told {w : Int32} {tl sc ec hl : Nat} (hC : xC x 11 C) (hS : xS x 15 (cN C) S) (bT : cT C ≤ 1) (h5 : x 1 1 = nI tl) (h7 : x 116 0 = nI sc) (h8 : x 116 2 = nI ec) (h9 : x 23 1 = nI hl) (h : Q (some (.int (fTold C S tl sc ec hl w.toInt))) x) : jo (d + 1) 27 [.ref 0, .int w] x Q := by
  obtain ⟨c1, c2, c3, c4, -⟩ := hC
  obtain ⟨-, s2, -, -, s5⟩ := hS
  refine jo_i rfl rfl (Nat.le_of_ble_eq_true rfl) ?_
  iterate 2 refine jw_u rfl ?_
  unfold fTold at h
  refine ⟨fun (e : w.toInt = 0) => ?_, fun (e0 : ¬ w.toInt = 0) => ⟨fun (e : w.toInt = 1) => ?_, fun (e1 : ¬ w.toInt = 1) => ⟨fun (e : w.toInt = 2) => ?_, fun (e2 : ¬ w.toInt = 2) => ⟨fun (e : w.toInt = 3) => ?_, fun (e3 : ¬ w.toInt = 3) => ⟨fun (e : w.toInt = 4) => ?_, fun (e4 : ¬ w.toInt = 4) => ⟨fun (e : w.toInt = 5) => ?_, fun (e5 : ¬ w.toInt = 5) => ⟨fun (e : w.toInt = 6) => ?_, fun (e6 : ¬ w.toInt = 6) => ⟨fun (e : w.toInt = 7) => ?_, fun (e7 : ¬ w.toInt = 7) => ⟨fun (e : w.toInt = 8) => ?_, fun (e8 : ¬ w.toInt = 8) => ⟨fun (e : w.toInt = 9) => ?_, fun (e9 : ¬ w.toInt = 9) => ?_⟩⟩⟩⟩⟩⟩⟩⟩⟩⟩
  · rw [if_pos e] at h
    iterate 3 refine jw_u rfl ?_
    refine jtop c1 ?_
    refine jw_u rfl ⟨fun (c : nI (cT C) = 0) => ?_, fun (c : ¬ nI (cT C) = 0) => ?_⟩
    · iterate 2 refine jw_u rfl ?_
      exact ⟨fun h => (by cases h), jret (c.trans n00.symm).symm h⟩
    · have e : cT C = 1 := by
        rcases (show cT C = 0 ∨ cT C = 1 by omega) with e | e
        · rw [e] at c
          exact absurd n00 c
        · exact e
      rw [e] at h
      iterate 3 refine jw_u rfl ?_
      exact ⟨fun h => (by cases h), h⟩
  · rw [if_neg e0, if_pos e] at h
    iterate 4 refine jw_u rfl ?_
    exact ⟨fun h => (by cases h), jret c2 h⟩
  · rw [if_neg e0, if_neg e1, if_pos e] at h
    iterate 4 refine jw_u rfl ?_
    exact ⟨fun h => (by cases h), jret c3 h⟩
  · rw [if_neg e0, if_neg e1, if_neg e2, if_pos e] at h
    iterate 4 refine jw_u rfl ?_
    exact ⟨fun h => (by cases h), jret s2 h⟩
  · rw [if_neg e0, if_neg e1, if_neg e2, if_neg e3, if_pos e] at h
    iterate 4 refine jw_u rfl ?_
    exact ⟨fun h => (by cases h), jret c4 h⟩
  · rw [if_neg e0, if_neg e1, if_neg e2, if_neg e3, if_neg e4, if_pos e] at h
    iterate 4 refine jw_u rfl ?_
    exact ⟨fun h => (by cases h), jret h5 h⟩
  · rw [if_neg e0, if_neg e1, if_neg e2, if_neg e3, if_neg e4, if_neg e5, if_pos e] at h
    iterate 4 refine jw_u rfl ?_
    exact ⟨fun h => (by cases h), jret s5 h⟩
  · rw [if_neg e0, if_neg e1, if_neg e2, if_neg e3, if_neg e4, if_neg e5, if_neg e6, if_pos e] at h
    iterate 4 refine jw_u rfl ?_
    exact ⟨fun h => (by cases h), jret h7 h⟩
  · rw [if_neg e0, if_neg e1, if_neg e2, if_neg e3, if_neg e4, if_neg e5, if_neg e6, if_neg e7, if_pos e] at h
    iterate 4 refine jw_u rfl ?_
    exact ⟨fun h => (by cases h), jret h8 h⟩
  · rw [if_neg e0, if_neg e1, if_neg e2, if_neg e3, if_neg e4, if_neg e5, if_neg e6, if_neg e7, if_neg e8, if_pos e] at h
    iterate 4 refine jw_u rfl ?_
    exact ⟨fun h => (by cases h), jret h9 h⟩
  · rw [if_neg e0, if_neg e1, if_neg e2, if_neg e3, if_neg e4, if_neg e5, if_neg e6, if_neg e7, if_neg e8, if_neg e9] at h
    iterate 2 refine jw_u rfl ?_
    exact ⟨fun h => (by cases h), h⟩
theorem c_person {p w : Int32} (hC : xC x 11 C) (hS : xS x 15 (cN C) S) (wc : wC C) (ws : wS (cN C) S) (h : Q (some (.int (fPerson C S p w))) x) : jo (d + 2) 28 [.ref 0, .int p, .int w] x Q := by
  obtain ⟨c1, c2, c3, c4, c5, c6, -⟩ := hC
  obtain ⟨s1, -⟩ := hS
  obtain ⟨-, b2, b3, -⟩ := wc
  obtain ⟨w1, -⟩ := ws
  refine jo_i rfl rfl (Nat.le_of_ble_eq_true rfl) ?_
  iterate 3 refine jw_u rfl ?_
  unfold fPerson at h
  refine c_isPerson c3 (fun hp => ?_) (fun hp => ?_)
  · refine jw_u rfl ⟨fun _ => ?_, fun c => absurd c n10⟩
    rw [if_pos hp] at h
    obtain ⟨j, hj, rfl⟩ := ilt (by omega) hp
    rw [nI_clamp (by omega)] at h
    iterate 2 refine jw_u rfl ?_
    refine ⟨fun (e : w.toInt = 0) => ?_, fun (e0 : ¬ w.toInt = 0) => ⟨fun (e : w.toInt = 1) => ?_, fun (e1 : ¬ w.toInt = 1) => ⟨fun (e : w.toInt = 2) => ?_, fun (e2 : ¬ w.toInt = 2) => ⟨fun (e : w.toInt = 3) => ?_, fun (e3 : ¬ w.toInt = 3) => ?_⟩⟩⟩⟩
    · rw [if_pos e] at h
      iterate 4 refine jw_u rfl ?_
      refine jw_u rfl (jaN (show j < 8 by omega) (by decide) (s1 j hj) ?_)
      refine jw_u rfl ?_
      exact ⟨fun h => (by cases h), h⟩
    · rw [if_neg e0, if_pos e] at h
      iterate 4 refine jw_u rfl ?_
      refine jw_u rfl (jaN (show j < 8 by omega) (by decide) (c5 j hj) ?_)
      refine jw_u rfl ?_
      exact ⟨fun h => (by cases h), h⟩
    · rw [if_neg e0, if_neg e1, if_pos e] at h
      iterate 4 refine jw_u rfl ?_
      refine jw_u rfl (jaN (show j < 8 by omega) (by decide) (c6 j hj) ?_)
      refine jw_u rfl ?_
      exact ⟨fun h => (by cases h), h⟩
    · rw [if_neg e0, if_neg e1, if_neg e2, if_pos e] at h
      iterate 4 refine jw_u rfl ?_
      refine jw_u rfl (jaN (show j < 8 by omega) (by decide) (s1 j hj) ?_)
      iterate 3 refine jw_u rfl ?_
      refine jtop c2 ?_
      refine jw_u rfl ?_
      refine c_apart (w1 j hj) b2 ?_
      refine jw_u rfl ?_
      exact ⟨fun h => (by cases h), h⟩
    · rw [if_neg e0, if_neg e1, if_neg e2, if_neg e3] at h
      iterate 2 refine jw_u rfl ?_
      exact ⟨fun h => (by cases h), h⟩
  · refine jw_u rfl ⟨fun c => absurd n00 c, fun _ => ?_⟩
    rw [if_neg hp] at h
    iterate 2 refine jw_u rfl ?_
    exact ⟨fun h => (by cases h), h⟩
theorem c_paper {p w : Int32} {n : Nat} (hS : xS x 15 n S) (ws : wS n S) (h : Q (some (.int (fPaper S p w))) x) : jo (d + 2) 29 [.ref 0, .int p, .int w] x Q := by
  obtain ⟨-, s2, s3, s4, -⟩ := hS
  obtain ⟨-, w2, -⟩ := ws
  refine jo_i rfl rfl (Nat.le_of_ble_eq_true rfl) ?_
  iterate 3 refine jw_u rfl ?_
  unfold fPaper at h
  refine c_isPaper s2 (fun hp => ?_) (fun hp => ?_)
  · refine jw_u rfl ⟨fun _ => ?_, fun c => absurd c n10⟩
    rw [if_pos hp] at h
    obtain ⟨j, hj, rfl⟩ := ilt (by omega) hp
    rw [nI_clamp (by omega)] at h
    iterate 2 refine jw_u rfl ?_
    refine ⟨fun (e : w.toInt = 0) => ?_, fun (e0 : ¬ w.toInt = 0) => ⟨fun (e : w.toInt = 1) => ?_, fun (e1 : ¬ w.toInt = 1) => ?_⟩⟩
    · rw [if_pos e] at h
      iterate 4 refine jw_u rfl ?_
      refine jw_u rfl (jaN (show j < 8 by omega) (by decide) (s3 j hj) ?_)
      refine jw_u rfl ?_
      exact ⟨fun h => (by cases h), h⟩
    · rw [if_neg e0, if_pos e] at h
      iterate 4 refine jw_u rfl ?_
      refine jw_u rfl (jaN (show j < 8 by omega) (by decide) (s4 j hj) ?_)
      refine jw_u rfl ?_
      exact ⟨fun h => (by cases h), h⟩
    · rw [if_neg e0, if_neg e1] at h
      iterate 2 refine jw_u rfl ?_
      exact ⟨fun h => (by cases h), h⟩
  · refine jw_u rfl ⟨fun c => absurd n00 c, fun _ => ?_⟩
    rw [if_neg hp] at h
    iterate 2 refine jw_u rfl ?_
    exact ⟨fun h => (by cases h), h⟩
theorem c_candidate {p : Int32} (hC : xC x 11 C) (wc : wC C) (h : Q (some (.int (fCand C p))) x) : jo (d + 2) 30 [.ref 0, .int p] x Q := by
  obtain ⟨-, -, -, c4, -, -, c7⟩ := hC
  obtain ⟨-, -, -, b4, -⟩ := wc
  refine jo_i rfl rfl (Nat.le_of_ble_eq_true rfl) ?_
  iterate 3 refine jw_u rfl ?_
  unfold fCand at h
  refine c_isCandidate c4 (fun hp => ?_) (fun hp => ?_)
  · refine jw_u rfl ⟨fun c => absurd c n10, fun _ => ?_⟩
    rw [if_pos hp] at h
    obtain ⟨j, hj, rfl⟩ := ilt (by omega) hp
    rw [nI_clamp (by omega)] at h
    iterate 4 refine jw_u rfl ?_
    refine jw_u rfl (jaN (show j < 4 by omega) (by decide) (c7 j hj) ?_)
    iterate 2 refine jw_u rfl ?_
    exact ⟨fun h => (by cases h), h⟩
  · refine jw_u rfl ⟨fun _ => ?_, fun c => absurd n00 c⟩
    rw [if_neg hp] at h
    iterate 2 refine jw_u rfl ?_
    exact ⟨fun h => (by cases h), h⟩
theorem c_whose {m : Int32} (hC : xC x 11 C) (hS : xS x 15 (cN C) S) (wc : wC C) (ws : wS (cN C) S) (h : Q (some (.int (fWhose C S m))) x) : jo (d + 4) 37 [.ref 0, .int m] x Q := by
  obtain ⟨-, -, c3, -, c5, -⟩ := hC
  obtain ⟨s1, -⟩ := hS
  obtain ⟨-, -, b3, -, b5, -⟩ := wc
  obtain ⟨w1, -⟩ := ws
  refine jo_i rfl rfl (Nat.le_of_ble_eq_true rfl) ?_
  iterate 2 refine jw_u rfl ?_
  unfold fWhose at h
  refine c_isMark (fun hp => ?_) (fun hp => ?_)
  · refine jw_u rfl ⟨fun c => absurd c n10, fun _ => ?_⟩
    rw [if_pos hp] at h
    obtain ⟨j, hj, rfl⟩ := ilt (by decide) hp
    rw [nI_clamp (by omega)] at h
    iterate 3 refine jw_u rfl ?_
    refine c_passSet c3 b3 s1 c5 w1 b5 hj ?_
    iterate 2 refine jw_u rfl ?_
    exact ⟨fun h => (by cases h), jret (sb_sn _ _ b3) h⟩
  · refine jw_u rfl ⟨fun _ => ?_, fun c => absurd n00 c⟩
    rw [if_neg hp] at h
    iterate 2 refine jw_u rfl ?_
    exact ⟨fun h => (by cases h), h⟩
theorem c_marks {p : Int32} (hC : xC x 11 C) (hS : xS x 15 (cN C) S) (wc : wC C) (ws : wS (cN C) S) (h : Q (some (.int (fMarks C S p))) x) : jo (d + 3) 39 [.ref 0, .int p] x Q := by
  obtain ⟨-, -, c3, -, c5, -⟩ := hC
  obtain ⟨s1, -⟩ := hS
  obtain ⟨-, -, b3, -, b5, -⟩ := wc
  obtain ⟨w1, -⟩ := ws
  refine jo_i rfl rfl (Nat.le_of_ble_eq_true rfl) ?_
  iterate 3 refine jw_u rfl ?_
  unfold fMarks at h
  refine c_isPerson c3 (fun hp => ?_) (fun hp => ?_)
  · refine jw_u rfl ⟨fun c => absurd c n10, fun _ => ?_⟩
    rw [if_pos hp] at h
    obtain ⟨j, hj, rfl⟩ := ilt (by omega) hp
    rw [nI_clamp (by omega)] at h
    iterate 3 refine jw_u rfl ?_
    refine c_passCount b3 s1 c5 w1 b5 hj ?_
    iterate 2 refine jw_u rfl ?_
    exact ⟨fun h => (by cases h), h⟩
  · refine jw_u rfl ⟨fun _ => ?_, fun c => absurd n00 c⟩
    rw [if_neg hp] at h
    iterate 2 refine jw_u rfl ?_
    exact ⟨fun h => (by cases h), h⟩
theorem c_kin {p : Int32} (hC : xC x 11 C) (hS : xS x 15 (cN C) S) (wc : wC C) (ws : wS (cN C) S) (h : Q (some (.int (fKin C S p))) x) : jo (d + 3) 41 [.ref 0, .int p] x Q := by
  obtain ⟨-, -, c3, -⟩ := hC
  obtain ⟨s1, -⟩ := hS
  obtain ⟨-, -, b3, -⟩ := wc
  obtain ⟨w1, -⟩ := ws
  refine jo_i rfl rfl (Nat.le_of_ble_eq_true rfl) ?_
  iterate 3 refine jw_u rfl ?_
  unfold fKin at h
  refine c_isPerson c3 (fun hp => ?_) (fun hp => ?_)
  · refine jw_u rfl ⟨fun c => absurd c n10, fun _ => ?_⟩
    rw [if_pos hp] at h
    obtain ⟨j, hj, rfl⟩ := ilt (by omega) hp
    rw [nI_clamp (by omega)] at h
    iterate 3 refine jw_u rfl ?_
    refine c_nearestTo c3 b3 s1 w1 hj ?_
    iterate 2 refine jw_u rfl ?_
    exact ⟨fun h => (by cases h), h⟩
  · refine jw_u rfl ⟨fun _ => ?_, fun c => absurd n00 c⟩
    rw [if_neg hp] at h
    iterate 2 refine jw_u rfl ?_
    exact ⟨fun h => (by cases h), h⟩
theorem c_vote {m : Int32} (hC : xC x 11 C) (wc : wC C) (h : Q (some (.int (fVote C m))) x) : jo (d + 3) 49 [.ref 0, .int m] x Q := by
  obtain ⟨-, -, -, c4, -, -, c7⟩ := hC
  obtain ⟨-, -, -, b4, -, -, b7⟩ := wc
  refine jo_i rfl rfl (Nat.le_of_ble_eq_true rfl) ?_
  iterate 2 refine jw_u rfl ?_
  unfold fVote at h
  refine c_isMark (fun hp => ?_) (fun hp => ?_)
  · refine jw_u rfl ⟨fun c => absurd c n10, fun _ => ?_⟩
    rw [if_pos hp] at h
    obtain ⟨j, hj, rfl⟩ := ilt (by decide) hp
    rw [nI_clamp (by omega)] at h
    iterate 3 refine jw_u rfl ?_
    refine c_choice c4 b4 c7 b7 hj ?_
    iterate 2 refine jw_u rfl ?_
    exact ⟨fun h => (by cases h), h⟩
  · refine jw_u rfl ⟨fun _ => ?_, fun c => absurd n00 c⟩
    rw [if_neg hp] at h
    iterate 2 refine jw_u rfl ?_
    exact ⟨fun h => (by cases h), h⟩
end CU
end
section
/-! THE CLASS: sets, sums, the tree, the first clash -/
theorem bitc : ∀ s, s < 256 → (fun v : Int32 =>
    let v1 := v - ((v.toUInt32 >>> ((nI 1).toUInt32 &&& Int32.toUInt32 31)).toInt32 &&& nI 1431655765)
    let v2 := (v1 &&& nI 858993459) + ((v1.toUInt32 >>> ((nI 2).toUInt32 &&& Int32.toUInt32 31)).toInt32 &&& nI 858993459)
    let v3 := (v2 + (v2.toUInt32 >>> ((nI 4).toUInt32 &&& Int32.toUInt32 31)).toInt32) &&& nI 252645135
    let v4 := v3 + (v3.toUInt32 >>> ((nI 8).toUInt32 &&& Int32.toUInt32 31)).toInt32
    let v5 := v4 + (v4.toUInt32 >>> ((nI 16).toUInt32 &&& Int32.toUInt32 31)).toInt32
    v5 &&& nI 63) (nI s) = nI (pp s) := by decide +kernel
theorem pp_le (s : Nat) : pp s ≤ 8 := cA_le _ 8
theorem c_bitCount {d s : Nat} {x : jM} {Q : Option Value → jM → Prop} (hs : s < 256) (h : Q (some (.int (nI (pp s)))) x) : jo (d + 1) 155 [.int (nI s)] x Q := by
  refine jo_i rfl rfl (Nat.le_of_ble_eq_true rfl) ?_
  iterate 42 refine jw_u rfl ?_
  exact ⟨fun h => (by cases h), jret (bitc s hs) h⟩
/-- the most of whom any two are told apart -/
def atB (n : Nat) (hd sl : Nat → Nat) (s : Nat) : Bool := (rsp n 0).all (fun q => !(bt s q.1 == 1 && bt s q.2 == 1) || !nr (hd q.1) (hd q.2) (sl q.1 + sl q.2))
theorem atB_iff {n : Nat} {hd sl : Nat → Nat} {s : Nat} : atB n hd sl s = true ↔ (∀ p q, p < q → q < n → bt s p = 1 → bt s q = 1 → nr (hd p) (hd q) (sl p + sl q) = false) := by
  unfold atB
  rw [List.all_eq_true]
  constructor
  · intro h p q h1 h2 h3 h4
    have := h (p, q) (rsp_mem.mpr ⟨Nat.zero_le _, h1, h2⟩)
    simpa [h3, h4] using this
  · intro h ⟨p, q⟩ hq
    obtain ⟨-, h1, h2⟩ := rsp_mem.mp hq
    by_cases h3 : bt s p = 1
    · by_cases h4 : bt s q = 1
      · simp [h p q h1 h2 h3 h4]
      · simp [h4]
    · simp [h3]
def mo (n : Nat) (hd sl : Nat → Nat) : Nat → Nat
  | 0 => 0
  | i + 1 => if pp (mo n hd sl i) < pp i ∧ atB n hd sl i = true then i else mo n hd sl i
theorem mo_le (n : Nat) (hd sl : Nat → Nat) : ∀ i, mo n hd sl i ≤ i
  | 0 => Nat.le_refl _
  | i + 1 => by
    have := mo_le n hd sl i
    rw [mo]
    split <;> omega
def fMost (C : aC) (S : aS) : Int32 := nI (mo (cN C) (sH S) (cSl C) (2 ^ cN C))
theorem shl1 : ∀ n, n < 9 → nI 1 <<< (nI n &&& 31) = nI (2 ^ n) := by decide +kernel
theorem p2 {n : Nat} (h : n ≤ 8) : 2 ^ n ≤ 256 := Nat.le_trans (Nat.pow_le_pow_right (by decide) h) (by decide)
def fClash (C : aC) (S : aS) : Int32 := cI ((rsp (cN C) 0).find? (fun q => nr (sH S q.1) (sH S q.2) (cSl C q.1 + cSl C q.2)))
def fForged (C : aC) (S : aS) : Int32 := sb (fun s => !nr (sM S s) (sH S (sN S s)) (cSl C (sN S s))) (sP S)
def fMakers (C : aC) (S : aS) (p : Int32) : Int32 := if 0 ≤ p ∧ p < nI (sP S) then sb (pS C S (sM S p.toNatClampNeg)) (cN C) &&& (nI 1 <<< (nI (sN S p.toNatClampNeg) &&& 31) ^^^ jc (-1)) else kU
/-- the weights of all that pass -/
def oA (P : Nat → Bool) (w : Nat → Nat) : Nat → Nat
  | 0 => 0
  | q + 1 => if P q = true then oA P w q + w q else oA P w q
theorem oA_le0 {P : Nat → Bool} {w : Nat → Nat} {z : Nat} (hw : ∀ k, w k ≤ z) : ∀ q, oA P w q ≤ q * z
  | 0 => Nat.zero_le _
  | q + 1 => by
    have h1 := oA_le0 (P := P) hw q
    have h2 := hw q
    rw [oA, Nat.succ_mul]
    generalize q * z = y at *
    split <;> omega
theorem oA_le {P : Nat → Bool} {w : Nat → Nat} (hw : ∀ k, w k ≤ 1000000) (q : Nat) : oA P w q ≤ q * 1000000 := oA_le0 hw q
theorem oA_ge {P : Nat → Bool} {w : Nat → Nat} : ∀ {n p : Nat}, p < n → P p = true → w p ≤ oA P w n
  | 0, p, h, _ => absurd h (Nat.not_lt_zero _)
  | n + 1, p, h, hp => by
    rw [oA]
    by_cases e : p = n
    · subst e
      rw [if_pos hp]
      omega
    · have := oA_ge (P := P) (w := w) (n := n) (p := p) (by omega) hp
      split <;> omega
abbrev wt (C : aC) (S : aS) (p : Nat) : Nat := 1000000 / pcn (sH S p) (cSl C p) 3
theorem wt_le (C : aC) (S : aS) (p : Nat) : wt C S p ≤ 1000000 := Nat.div_le_self _ _
theorem wt_ge (C : aC) (S : aS) (p : Nat) : 1000 ≤ wt C S p := by
  have h1 := pcn_1 (sH S p) (cSl C p) 3
  have h2 := pcn_3 (a := sH S p) (s := cSl C p) (Nat.le_refl 3)
  show 1000 ≤ 1000000 / _
  rw [Nat.le_div_iff_mul_le (by omega)]
  omega
def fOdds (C : aC) (S : aS) (p m : Int32) : Int32 :=
  if 0 ≤ p ∧ p < nI (cN C) then (if 0 ≤ m ∧ m < nI 1000 then (if pS C S m.toNatClampNeg p.toNatClampNeg = true then nI (wt C S p.toNatClampNeg * 1000000 / oA (pS C S m.toNatClampNeg) (wt C S) (cN C)) else nI 0) else kO) else kU
theorem lg_pos {a : Nat} (h : 0 < a) (ha : a < 2 ^ 63) : lg_cmp (lN a) (lN 0) = 1 := by
  have : lN 0 < lN a := (pk_lLT (by decide) ha).mpr h
  simp [lg_cmp, this]
section CV
variable {d : Nat} {x : jM} {Q : Option Value → jM → Prop} {C : aC} {S : aS}
theorem c_most (hC : xC x 11 C) (hS : xS x 15 (cN C) S) (wc : wC C) (ws : wS (cN C) S) (h : Q (some (.int (fMost C S))) x) : jo (d + 4) 42 [.ref 0] x Q := by
  obtain ⟨-, -, c3, -, c5, -⟩ := hC
  obtain ⟨s1, -⟩ := hS
  obtain ⟨-, -, b3, -, b5, -⟩ := wc
  obtain ⟨w1, -⟩ := ws
  have b2 := p2 b3
  have b9 : 1 ≤ 2 ^ cN C := Nat.one_le_two_pow
  have loop : ∀ i, i ≤ 2 ^ cN C → 1 ≤ i → ∀ g, jw (d + 3) kX6_most Q 12 [some (.ref 0), some (.int (nI (mo (cN C) (sH S) (cSl C) i))), some (.int (nI (pp (mo (cN C) (sH S) (cSl C) i)))), some (.int (nI (2 ^ cN C))), some (.int (nI i)), g] [] x := by
    refine dn _ (2 ^ cN C) (fun _ g => ?_) (fun i hi ih hi1 g => ?_)
    · iterate 2 refine jw_u rfl ?_
      refine jw_u rfl ⟨fun _ => ?_, fun (c' : ¬ nI (2 ^ cN C) ≤ nI (2 ^ cN C)) => absurd (Int32.le_refl _) c'⟩
      iterate 2 refine jw_u rfl ?_
      exact ⟨fun h => (by cases h), h⟩
    · have ih := ih (by omega) (some (.int (nI (pp i))))
      have q1 := pp_le i
      have q2 := pp_le (mo (cN C) (sH S) (cSl C) i)
      rw [nI_s i] at ih
      iterate 2 refine jw_u rfl ?_
      refine jw_u rfl ⟨fun (c' : nI (2 ^ cN C) ≤ nI i) => absurd c' (nI_ge hi (by omega)), fun _ => ?_⟩
      iterate 2 refine jw_u rfl ?_
      refine c_bitCount (by omega) ?_
      iterate 3 refine jw_u rfl ?_
      refine jw_u rfl ⟨fun (c' : nI (pp i) ≤ nI (pp (mo (cN C) (sH S) (cSl C) i))) => ?_, fun (c' : ¬ nI (pp i) ≤ nI (pp (mo (cN C) (sH S) (cSl C) i))) => ?_⟩
      · rw [nI_leI (by omega) (by omega)] at c'
        iterate 2 refine jw_u rfl ?_
        rw [mo, if_neg (fun hc => absurd hc.1 (Nat.not_lt.mpr c'))] at ih
        exact ih
      · rw [nI_leI (by omega) (by omega)] at c'
        iterate 3 refine jw_u rfl ?_
        refine c_allTold c3 b3 s1 c5 w1 b5 (by omega) (fun ha => ?_) (fun ha => ?_)
        · refine jw_u rfl ⟨fun c => absurd c n10, fun _ => ?_⟩
          iterate 6 refine jw_u rfl ?_
          rw [mo, if_pos ⟨Nat.not_le.mp c', atB_iff.mpr ha⟩] at ih
          exact ih
        · refine jw_u rfl ⟨fun _ => ?_, fun c => absurd n00 c⟩
          iterate 2 refine jw_u rfl ?_
          rw [mo, if_neg (fun hc => ha (atB_iff.mp hc.2))] at ih
          exact ih
  refine jo_i rfl rfl (Nat.le_of_ble_eq_true rfl) ?_
  iterate 7 refine jw_u rfl ?_
  refine jw_u rfl ?_
  refine jtop c3 ?_
  refine jw_u rfl ?_
  refine jtop (shl1 _ (by omega)) ?_
  iterate 3 refine jw_u rfl ?_
  have e1 : mo (cN C) (sH S) (cSl C) 1 = 0 := by
    rw [mo]
    split <;> rfl
  have := loop 1 b9 (Nat.le_refl _) none
  rw [e1] at this
  exact this
theorem c_clash (hC : xC x 11 C) (hS : xS x 15 (cN C) S) (wc : wC C) (ws : wS (cN C) S) (h : Q (some (.int (fClash C S))) x) : jo (d + 3) 43 [.ref 0] x Q := by
  obtain ⟨-, -, c3, -, c5, -⟩ := hC
  obtain ⟨s1, -⟩ := hS
  obtain ⟨-, -, b3, -, b5, -⟩ := wc
  obtain ⟨w1, -⟩ := ws
  have loop : ∀ p, p ≤ cN C → ∀ g, Q (some (.int (cI ((rsp (cN C) p).find? (fun q => nr (sH S q.1) (sH S q.2) (cSl C q.1 + cSl C q.2)))))) x → jw (d + 2) kX6_clash Q 2 [some (.ref 0), some (.int (nI p)), g] [] x := by
    refine dn _ (cN C) (fun g hq => ?_) (fun p hp ih g hq => ?_)
    · rw [rsp_n (Nat.le_refl _)] at hq
      iterate 4 refine jw_u rfl ?_
      refine jw_u rfl ⟨fun _ => ?_, fun (c' : ¬ x 11 2 ≤ nI (cN C)) => absurd (by rw [c3]; exact Int32.le_refl _) c'⟩
      iterate 2 refine jw_u rfl ?_
      exact ⟨fun h => (by cases h), jret jm1 hq⟩
    · have inner : ∀ q, q ≤ cN C → p < q → Q (some (.int (cI ((rwp (cN C) p q ++ rsp (cN C) (p + 1)).find? (fun q => nr (sH S q.1) (sH S q.2) (cSl C q.1 + cSl C q.2)))))) x → jw (d + 2) kX6_clash Q 11 [some (.ref 0), some (.int (nI p)), some (.int (nI q))] [] x := by
        refine dn _ (cN C) (fun _ hq => ?_) (fun q hq' ihq hpq hq => ?_)
        · rw [rwp_n (Nat.le_refl _), List.nil_append] at hq
          iterate 4 refine jw_u rfl ?_
          refine jw_u rfl ⟨fun _ => ?_, fun (c' : ¬ x 11 2 ≤ nI (cN C)) => absurd (by rw [c3]; exact Int32.le_refl _) c'⟩
          iterate 2 refine jw_u rfl ?_
          have := ih (some (.int (nI (cN C)))) hq
          rw [nI_s p] at this
          exact this
        · rw [rwp_c hq', List.cons_append, List.find?_cons] at hq
          iterate 4 refine jw_u rfl ?_
          refine jw_u rfl ⟨fun (c' : x 11 2 ≤ nI q) => absurd c' (by rw [c3]; exact nI_ge hq' (by omega)), fun _ => ?_⟩
          iterate 6 refine jw_u rfl ?_
          refine c_toldApart (Or.inl rfl) b3 s1 c5 w1 b5 hp hq' (fun hw => ?_) (fun hw => ?_)
          · refine jw_u rfl ⟨fun _ => ?_, fun c => absurd c n10⟩
            iterate 2 refine jw_u rfl ?_
            simp only [hw] at hq
            have := ihq (by omega) hq
            rw [nI_s q] at this
            exact this
          · refine jw_u rfl ⟨fun c => absurd n00 c, fun _ => ?_⟩
            simp only [hw] at hq
            iterate 3 refine jw_u rfl ?_
            refine jtop (pk_mul 10 p) ?_
            iterate 2 refine jw_u rfl ?_
            refine jtop (nI_add _ _) ?_
            refine jw_u rfl ?_
            exact ⟨fun h => (by cases h), hq⟩
      rw [rsp_c hp] at hq
      iterate 4 refine jw_u rfl ?_
      refine jw_u rfl ⟨fun (c' : x 11 2 ≤ nI p) => absurd c' (by rw [c3]; exact nI_ge hp (by omega)), fun _ => ?_⟩
      iterate 3 refine jw_u rfl ?_
      refine jtop (nI_add _ _) ?_
      refine jw_u rfl ?_
      exact inner (p + 1) hp (Nat.lt_succ_self _) hq
  refine jo_i rfl rfl (Nat.le_of_ble_eq_true rfl) ?_
  iterate 2 refine jw_u rfl ?_
  exact loop 0 (Nat.zero_le _) none h
theorem c_forged (hC : xC x 11 C) (hS : xS x 15 (cN C) S) (wc : wC C) (ws : wS (cN C) S) (h : Q (some (.int (fForged C S))) x) : jo (d + 3) 44 [.ref 0] x Q := by
  obtain ⟨-, -, c3, -, c5, -⟩ := hC
  obtain ⟨s1, s2, s3, s4, -⟩ := hS
  obtain ⟨-, -, b3, -, b5, -⟩ := wc
  obtain ⟨w1, w2, w3, w4, -⟩ := ws
  have loop : ∀ i, i ≤ sP S → jw (d + 2) kX6_forged Q 4 [some (.ref 0), some (.int (sb (fun s => !nr (sM S s) (sH S (sN S s)) (cSl C (sN S s))) i)), some (.int (nI i))] [] x := by
    refine dn _ (sP S) ?_ (fun i hi ih => ?_)
    · iterate 4 refine jw_u rfl ?_
      refine jw_u rfl ⟨fun _ => ?_, fun (c' : ¬ x 15 1 ≤ nI (sP S)) => absurd (by rw [s2]; exact Int32.le_refl _) c'⟩
      iterate 2 refine jw_u rfl ?_
      exact ⟨fun h => (by cases h), h⟩
    · rw [nI_s i] at ih
      iterate 4 refine jw_u rfl ?_
      refine jw_u rfl ⟨fun (c' : x 15 1 ≤ nI i) => absurd c' (by rw [s2]; exact nI_ge hi (by omega)), fun _ => ?_⟩
      iterate 5 refine jw_u rfl ?_
      refine jw_u rfl (jaN (show i < 8 by omega) (by decide) (s3 i hi) ?_)
      iterate 4 refine jw_u rfl ?_
      refine jw_u rfl (jaN (show i < 8 by omega) (by decide) (s4 i hi) ?_)
      refine jw_u rfl ?_
      refine c_passes c3 b3 s1 c5 w1 b5 (w3 i hi) (w4 i hi) (fun hw => ?_) (fun hw => ?_)
      · refine jw_u rfl ⟨fun _ => ?_, fun c => absurd c n10⟩
        iterate 2 refine jw_u rfl ?_
        rw [sb, if_neg (by simp [hw])] at ih
        exact ih
      · refine jw_u rfl ⟨fun c => absurd n00 c, fun _ => ?_⟩
        iterate 8 refine jw_u rfl ?_
        rw [sb, if_pos (by simp [hw])] at ih
        exact ih
  refine jo_i rfl rfl (Nat.le_of_ble_eq_true rfl) ?_
  iterate 4 refine jw_u rfl ?_
  exact loop 0 (Nat.zero_le _)
theorem c_makers {p : Int32} (hC : xC x 11 C) (hS : xS x 15 (cN C) S) (wc : wC C) (ws : wS (cN C) S) (h : Q (some (.int (fMakers C S p))) x) : jo (d + 4) 45 [.ref 0, .int p] x Q := by
  obtain ⟨-, -, c3, -, c5, -⟩ := hC
  obtain ⟨s1, s2, s3, s4, -⟩ := hS
  obtain ⟨-, -, b3, -, b5, -⟩ := wc
  obtain ⟨w1, w2, w3, w4, -⟩ := ws
  refine jo_i rfl rfl (Nat.le_of_ble_eq_true rfl) ?_
  iterate 3 refine jw_u rfl ?_
  unfold fMakers at h
  refine c_isPaper s2 (fun hp => ?_) (fun hp => ?_)
  · refine jw_u rfl ⟨fun _ => ?_, fun c => absurd c n10⟩
    rw [if_pos hp] at h
    obtain ⟨j, hj, rfl⟩ := ilt (by omega) hp
    rw [nI_clamp (by omega)] at h
    iterate 5 refine jw_u rfl ?_
    refine jw_u rfl (jaN (show j < 8 by omega) (by decide) (s3 j hj) ?_)
    refine jw_u rfl ?_
    refine c_passSet c3 b3 s1 c5 w1 b5 (w3 j hj) ?_
    iterate 5 refine jw_u rfl ?_
    refine jw_u rfl (jaN (show j < 8 by omega) (by decide) (s4 j hj) ?_)
    iterate 5 refine jw_u rfl ?_
    exact ⟨fun h => (by cases h), h⟩
  · refine jw_u rfl ⟨fun c => absurd n00 c, fun _ => ?_⟩
    rw [if_neg hp] at h
    iterate 2 refine jw_u rfl ?_
    exact ⟨fun h => (by cases h), h⟩
theorem c_odds {p m : Int32} (hC : xC x 11 C) (hS : xS x 15 (cN C) S) (wc : wC C) (ws : wS (cN C) S) (h : Q (some (.int (fOdds C S p m))) x) : jo (d + 4) 38 [.ref 0, .int p, .int m] x Q := by
  obtain ⟨-, -, c3, -, c5, -⟩ := hC
  obtain ⟨s1, s2, s3, s4, -⟩ := hS
  obtain ⟨-, -, b3, -, b5, -⟩ := wc
  obtain ⟨w1, w2, w3, w4, -⟩ := ws
  refine jo_i rfl rfl (Nat.le_of_ble_eq_true rfl) ?_
  iterate 3 refine jw_u rfl ?_
  unfold fOdds at h
  refine c_isPerson c3 (fun hp => ?_) (fun hp => ?_)
  rotate_left
  · refine jw_u rfl ⟨fun c => absurd n00 c, fun _ => ?_⟩
    rw [if_neg hp] at h
    iterate 2 refine jw_u rfl ?_
    exact ⟨fun h => (by cases h), h⟩
  refine jw_u rfl ⟨fun _ => ?_, fun c => absurd c n10⟩
  rw [if_pos hp] at h
  iterate 2 refine jw_u rfl ?_
  refine c_isMark (fun hm => ?_) (fun hm => ?_)
  rotate_left
  · refine jw_u rfl ⟨fun c => absurd n00 c, fun _ => ?_⟩
    rw [if_neg hm] at h
    iterate 2 refine jw_u rfl ?_
    exact ⟨fun h => (by cases h), h⟩
  refine jw_u rfl ⟨fun _ => ?_, fun c => absurd c n10⟩
  rw [if_pos hm] at h
  obtain ⟨j, hj, rfl⟩ := ilt (by omega) hp
  obtain ⟨a, ha, rfl⟩ := ilt (by decide) hm
  rw [nI_clamp (by omega), nI_clamp (by omega)] at h
  iterate 4 refine jw_u rfl ?_
  refine c_passes c3 b3 s1 c5 w1 b5 ha hj (fun hw => ?_) (fun hw => ?_)
  rotate_left
  · refine jw_u rfl ⟨fun c => absurd n00 c, fun _ => ?_⟩
    have hw : pS C S a j = false := hw
    rw [if_neg (by rw [hw]; decide)] at h
    iterate 2 refine jw_u rfl ?_
    exact ⟨fun h => (by cases h), h⟩
  refine jw_u rfl ⟨fun _ => ?_, fun c => absurd c n10⟩
  rw [if_pos hw] at h
  have g1 := oA_ge (P := pS C S a) (w := wt C S) hj hw
  have g2 := wt_ge C S j
  have g3 := wt_le C S j
  have g4 := oA_le (P := pS C S a) (wt_le C S) (cN C)
  have loop : ∀ i, i ≤ cN C → jw (d + 3) kX6_odds Q 22 [some (.ref 0), some (.int (nI j)), some (.int (nI a)), some (.long (lN (oA (pS C S a) (wt C S) i))), none, some (.int (nI i))] [] x := by
    refine dn _ (cN C) ?_ (fun i hi ih => ?_)
    · iterate 4 refine jw_u rfl ?_
      refine jw_u rfl ⟨fun _ => ?_, fun (c' : ¬ x 11 2 ≤ nI (cN C)) => absurd (by rw [c3]; exact Int32.le_refl _) c'⟩
      iterate 3 refine jw_u rfl ?_
      refine jtop (lg_pos (by omega) (by omega)) ?_
      refine jw_u rfl ⟨fun _ => ?_, fun (c' : ¬ (0 : Int32) < 1) => absurd (by decide) c'⟩
      iterate 3 refine jw_u rfl ?_
      refine c_weight b3 s1 c5 w1 b5 hj ?_
      refine jw_u rfl ?_
      refine jtopL (nI_l (n := wt C S j) (by omega)) ?_
      iterate 3 refine jw_u rfl ?_
      refine jw_u rfl ⟨?_, ?_⟩
      · intro e
        have := (pk_lEQ (a := oA (pS C S a) (wt C S) (cN C)) (b := 0) (by omega) (by decide)).mp e
        omega
      refine jtopL (v' := lN (wt C S j * 1000000 / oA (pS C S a) (wt C S) (cN C))) ?_ ?_
      · show lN _ * lN 1000000 / lN _ = _
        rw [lN_mul, pk_lDiv (a := wt C S j * 1000000) (by omega) (by omega) (by omega)]
      iterate 2 refine jw_u rfl ?_
      exact ⟨fun h => (by cases h), jret (lN_i _) h⟩
    · rw [nI_s i] at ih
      have g5 := oA_le (P := pS C S a) (wt_le C S) i
      iterate 4 refine jw_u rfl ?_
      refine jw_u rfl ⟨fun (c' : x 11 2 ≤ nI i) => absurd c' (by rw [c3]; exact nI_ge hi (by omega)), fun _ => ?_⟩
      iterate 4 refine jw_u rfl ?_
      refine c_passes c3 b3 s1 c5 w1 b5 ha hi (fun hw2 => ?_) (fun hw2 => ?_)
      · refine jw_u rfl ⟨fun c => absurd c n10, fun _ => ?_⟩
        iterate 4 refine jw_u rfl ?_
        refine c_weight b3 s1 c5 w1 b5 hi ?_
        have g6 := wt_le C S i
        refine jw_u rfl ?_
        refine jtopL (nI_l (n := wt C S i) (by omega)) ?_
        refine jw_u rfl ?_
        refine jtopL (lN_add _ _) ?_
        iterate 3 refine jw_u rfl ?_
        rw [oA, if_pos hw2] at ih
        exact ih
      · refine jw_u rfl ⟨fun _ => ?_, fun c => absurd n00 c⟩
        iterate 2 refine jw_u rfl ?_
        have hw2 : pS C S a i = false := hw2
        rw [oA, if_neg (by rw [hw2]; decide)] at ih
        exact ih
  iterate 4 refine jw_u rfl ?_
  exact loop 0 (Nat.zero_le _)
end CV
end
section
/-! THE CLASS: the tree, the heir, the sham, love, turned, one, what is seen -/
def fTree (C : aC) (S : aS) (i : Int32) : Int32 := if i = -1 then nI (tA (sH S) (cN C) (cN C - 1)) else if 0 ≤ i ∧ i < nI (cN C - 1) then cI (nx (tG (sH S) (cN C) i.toNatClampNeg) (sH S) (cN C)) else -1
def fHeir (C : aC) (S : aS) (m : Int32) : Int32 := if 0 ≤ m ∧ m < nI 61 then oI (am (fun p => ap (ya (cDr C p) (cG C) (sY S) (sH S p) m.toNatClampNeg) (cG C)) (fun _ => true) (cN C)) else kO
/-- what others allow, and one more; j itself left out -/
def al (f : Nat → Nat) (j z : Nat) : Nat → Nat
  | 0 => z
  | q + 1 => if q = j then al f j z q else min (al f j z q) (if q < j then f q else f q + 1)
theorem al_min {f : Nat → Nat} {j z w : Nat} (h : z ≤ w) : ∀ q, al f j z q = min z (al f j w q)
  | 0 => by rw [al, al, Nat.min_eq_left h]
  | q + 1 => by
    rw [al, al]
    split
    · exact al_min h q
    · rw [al_min h q, Nat.min_assoc]
theorem al_le {f : Nat → Nat} {j z : Nat} : ∀ q, al f j z q ≤ z
  | 0 => Nat.le_refl _
  | q + 1 => by
    rw [al]
    split
    · exact al_le q
    · exact Nat.le_trans (Nat.min_le_left _ _) (al_le q)
def shR (own a : Nat) : Int32 := if a = 0 then -1 else nI (own - (a - 1))
def fSham (C : aC) (S : aS) (p : Int32) : Int32 := if 0 ≤ p ∧ p < nI (cN C) then shR (ap (sH S p.toNatClampNeg) (cG C)) (al (fun k => ap (sH S k) (cG C)) p.toNatClampNeg 1000001 (cN C)) else kU
/-- who loves whom: p and its nearest, if it is the other's nearest too -/
def lv (n : Nat) (hd : Nat → Nat) (p : Nat) : Option (Nat × Nat) := match kn n hd p with
  | none => none
  | some q => if p < q ∧ kn n hd q = some p then some (p, q) else none
def lvl (n : Nat) (hd : Nat → Nat) (p : Nat) : List (Nat × Nat) := (List.range' p (n - p)).filterMap (lv n hd)
theorem lvl_c {n p : Nat} {hd : Nat → Nat} (h : p < n) : lvl n hd p = (match lv n hd p with
    | none => lvl n hd (p + 1)
    | some a => a :: lvl n hd (p + 1)) := by
  unfold lvl
  rw [show n - p = (n - (p + 1)) + 1 by omega, List.range'_succ, List.filterMap_cons]
  cases lv n hd p <;> rfl
theorem lvl_n {n p : Nat} {hd : Nat → Nat} (h : n ≤ p) : lvl n hd p = [] := by
  unfold lvl
  rw [show n - p = 0 by omega]
  rfl
def fLove (C : aC) (S : aS) (i : Int32) : Int32 := rsI i 0 (lvl (cN C) (sH S) 0)
/-- how few must change, for the candidate c -/
def tn (C : aC) (a c z : Nat) : Nat → Nat
  | 0 => z
  | o + 1 => if ap a o < tn C a c z o ∧ ch C o = some c then ap a o else tn C a c z o
theorem tn_le {C : aC} {a c z : Nat} : ∀ o, tn C a c z o ≤ z
  | 0 => Nat.le_refl _
  | o + 1 => by
    have := tn_le (C := C) (a := a) (c := c) (z := z) o
    rw [tn]
    split <;> omega
theorem tn_z {C : aC} {a c z w : Nat} (ha : a < 1000) (hz : 27 < z) (hw : 27 < w) : ∀ o, o ≤ 1000 → (tn C a c z o = z ∧ tn C a c w o = w) ∨ (tn C a c z o = tn C a c w o ∧ tn C a c z o ≤ 27)
  | 0, _ => Or.inl ⟨rfl, rfl⟩
  | o + 1, h => by
    have b := ap_lt (a := a) (b := o) ha (by omega)
    rw [tn, tn]
    rcases tn_z (C := C) (c := c) ha hz hw o (by omega) with ⟨h1, h2⟩ | ⟨h1, h2⟩
    · rw [h1, h2]
      by_cases e : ch C o = some c
      · rw [if_pos ⟨by omega, e⟩, if_pos ⟨by omega, e⟩]
        exact Or.inr ⟨rfl, b⟩
      · rw [if_neg (fun hc => e hc.2), if_neg (fun hc => e hc.2)]
        exact Or.inl ⟨rfl, rfl⟩
    · rw [← h1]
      refine Or.inr ⟨rfl, ?_⟩
      split <;> omega
def fTurned (C : aC) (m c : Int32) : Int32 := if 0 ≤ c ∧ c < nI (cC C) then (if 0 ≤ m ∧ m < nI 1000 then (if tn C m.toNatClampNeg c.toNatClampNeg 100 1000 = 100 then -1 else nI (tn C m.toNatClampNeg c.toNatClampNeg 100 1000)) else kO) else kU
abbrev oneP (C : aC) (S : aS) (p q : Nat) : Nat → Bool := fun t => nr (ya (cDr C p) (cG C) (sY S) (sH S p) t) (ya (cDr C q) (cG C) (sY S) (sH S q) t) (cSl C p + cSl C q)
def fOne (C : aC) (S : aS) (p q : Int32) : Int32 := if (0 ≤ p ∧ p < nI (cN C)) ∧ (0 ≤ q ∧ q < nI (cN C)) ∧ ¬ p = q then on1 (oneP C S p.toNatClampNeg q.toNatClampNeg) 61 0 else kU
/-- all that fits what is seen -/
def mb (C : aC) (S : aS) (sf : Nat → Nat) : Nat → Nat
  | 0 => 2 ^ cN C - 1
  | k + 1 => mb C S sf k &&& sn (pS C S (sf k)) (cN C)
theorem mb_lt {C : aC} {S : aS} {sf : Nat → Nat} (h : cN C ≤ 8) : ∀ k, mb C S sf k < 256
  | 0 => by
    have := p2 h
    rw [mb]
    omega
  | k + 1 => Nat.lt_of_le_of_lt Nat.and_le_left (mb_lt h k)
def lB (F : Nat → Nat) (z : Nat) : Nat → Option Nat × Nat
  | 0 => (none, z)
  | k + 1 => if F k < (lB F z k).2 then (some k, F k) else lB F z k
theorem lB_le {F : Nat → Nat} {z : Nat} : ∀ k, (lB F z k).2 ≤ z
  | 0 => Nat.le_refl _
  | k + 1 => by
    have := lB_le (F := F) (z := z) k
    rw [lB]
    split
    · show F k ≤ z
      omega
    · exact this
abbrev lkF (C : aC) (S : aS) (s : Nat) : Nat → Nat := fun w => mA (fun f => cA (fun p => bt s p == 1 && dg (sH S p) w == f) (cN C)) 10
def fLook (C : aC) (S : aS) (sc : Nat) (sf : Nat → Nat) : Int32 := oI (lB (lkF C S (mb C S sf sc)) (pp (mb C S sf sc)) 3).1
def fJudge (S : aS) (ec : Nat) (ep em : Nat → Nat) : Int32 := on1 (fun k => sH S (ep k) != em k) ec 0
section CW
variable {d : Nat} {x : jM} {Q : Option Value → jM → Prop} {C : aC} {S : aS}
theorem c_madeBy {sc : Nat} {sf : Nat → Nat} (hC : xC x 11 C) (hS : xS x 15 (cN C) S) (wc : wC C) (ws : wS (cN C) S) (h7 : x 116 0 = nI sc) (b7 : sc ≤ 8) (hf : ∀ k, k < sc → x 117 k = nI (sf k)) (bf : ∀ k, k < sc → sf k < 1000) (h : Q (some (.int (nI (mb C S sf sc)))) x) : jo (d + 4) 53 [.ref 0] x Q := by
  obtain ⟨-, -, c3, -, c5, -⟩ := hC
  obtain ⟨s1, -⟩ := hS
  obtain ⟨-, -, b3, -, b5, -⟩ := wc
  obtain ⟨w1, -⟩ := ws
  have g2 := p2 b3
  have b9 : 1 ≤ 2 ^ cN C := Nat.one_le_two_pow
  have loop : ∀ i, i ≤ sc → jw (d + 3) kX6_madeBy Q 10 [some (.ref 0), some (.int (nI (mb C S sf i))), some (.int (nI i))] [] x := by
    refine dn _ sc ?_ (fun i hi ih => ?_)
    · iterate 4 refine jw_u rfl ?_
      refine jw_u rfl ⟨fun _ => ?_, fun (c' : ¬ x 116 0 ≤ nI sc) => absurd (by rw [h7]; exact Int32.le_refl _) c'⟩
      iterate 2 refine jw_u rfl ?_
      exact ⟨fun h => (by cases h), h⟩
    · rw [nI_s i] at ih
      iterate 4 refine jw_u rfl ?_
      refine jw_u rfl ⟨fun (c' : x 116 0 ≤ nI i) => absurd c' (by rw [h7]; exact nI_ge hi (by omega)), fun _ => ?_⟩
      iterate 6 refine jw_u rfl ?_
      refine jw_u rfl (jaN (show i < 8 by omega) (by decide) (hf i hi) ?_)
      refine jw_u rfl ?_
      refine c_passSet c3 b3 s1 c5 w1 b5 (bf i hi) ?_
      have e : sb (fun j => nr (sf i) (sH S j) (cSl C j)) (cN C) = nI (sn (pS C S (sf i)) (cN C)) := sb_sn _ _ b3
      have g3 := sn_lt (pS C S (sf i)) (cN C)
      refine jtop e ?_
      refine jw_u rfl ?_
      refine jtop (nI_and _ _ (mb_lt b3 i) (by omega)) ?_
      iterate 3 refine jw_u rfl ?_
      exact ih
  refine jo_i rfl rfl (Nat.le_of_ble_eq_true rfl) ?_
  iterate 4 refine jw_u rfl ?_
  refine jtop c3 ?_
  refine jw_u rfl ?_
  refine jtop (shl1 _ (by omega)) ?_
  iterate 2 refine jw_u rfl ?_
  refine jtop (pk_sub (b := 1) b9) ?_
  iterate 3 refine jw_u rfl ?_
  exact loop 0 (Nat.zero_le _)
theorem c_lookAt {sc : Nat} {sf : Nat → Nat} (hC : xC x 11 C) (hS : xS x 15 (cN C) S) (wc : wC C) (ws : wS (cN C) S) (h7 : x 116 0 = nI sc) (b7 : sc ≤ 8) (hf : ∀ k, k < sc → x 117 k = nI (sf k)) (bf : ∀ k, k < sc → sf k < 1000) (h : Q (some (.int (fLook C S sc sf))) x) : jo (d + 5) 54 [.ref 0] x Q := by
  have b3 := wc.2.2.1
  have g1 := mb_lt (S := S) (sf := sf) b3 sc
  have g2 := pp_le (mb C S sf sc)
  have g3 : ∀ w, lkF C S (mb C S sf sc) w ≤ 8 := fun w => mA_le (fun k => Nat.le_trans (cA_le _ _) b3) 10
  have loop : ∀ i, i ≤ 3 → ∀ g, jw (d + 4) kX6_lookAt Q 10 [some (.ref 0), some (.int (nI (mb C S sf sc))), some (.int (oI (lB (lkF C S (mb C S sf sc)) (pp (mb C S sf sc)) i).1)), some (.int (nI (lB (lkF C S (mb C S sf sc)) (pp (mb C S sf sc)) i).2)), some (.int (nI i)), g] [] x := by
    refine dn _ 3 (fun g => ?_) (fun i hi ih g => ?_)
    · iterate 2 refine jw_u rfl ?_
      refine jw_u rfl ⟨fun _ => ?_, fun (c' : ¬ nI 3 ≤ nI 3) => absurd (Int32.le_refl _) c'⟩
      iterate 2 refine jw_u rfl ?_
      exact ⟨fun h => (by cases h), h⟩
    · have ih := ih (some (.int (nI (lkF C S (mb C S sf sc) i))))
      have g4 := lB_le (F := lkF C S (mb C S sf sc)) (z := pp (mb C S sf sc)) i
      have g5 := g3 i
      rw [nI_s i] at ih
      iterate 2 refine jw_u rfl ?_
      refine jw_u rfl ⟨fun (c' : nI 3 ≤ nI i) => absurd c' (nI_ge hi (by omega)), fun _ => ?_⟩
      iterate 4 refine jw_u rfl ?_
      refine c_alike hC.2.2.1 b3 hS.1 ws.1 g1 hi ?_
      iterate 3 refine jw_u rfl ?_
      refine jw_u rfl ⟨fun (c' : nI (lB (lkF C S (mb C S sf sc)) (pp (mb C S sf sc)) i).2 ≤ nI (lkF C S (mb C S sf sc) i)) => ?_, fun (c' : ¬ nI (lB (lkF C S (mb C S sf sc)) (pp (mb C S sf sc)) i).2 ≤ nI (lkF C S (mb C S sf sc) i)) => ?_⟩
      · rw [nI_leI (by omega) (by omega)] at c'
        iterate 2 refine jw_u rfl ?_
        rw [lB, if_neg (by omega)] at ih
        exact ih
      · rw [nI_leI (by omega) (by omega)] at c'
        iterate 6 refine jw_u rfl ?_
        rw [lB, if_pos (by omega)] at ih
        exact ih
  refine jo_i rfl rfl (Nat.le_of_ble_eq_true rfl) ?_
  iterate 2 refine jw_u rfl ?_
  refine c_madeBy hC hS wc ws h7 b7 hf bf ?_
  iterate 5 refine jw_u rfl ?_
  refine c_bitCount g1 ?_
  iterate 3 refine jw_u rfl ?_
  exact loop 0 (Nat.zero_le _) none
theorem c_judge {ec : Nat} {ep em : Nat → Nat} (hC : xC x 11 C) (hS : xS x 15 (cN C) S) (wc : wC C) (ws : wS (cN C) S) (h8 : x 116 2 = nI ec) (b8 : ec ≤ 15) (hp : ∀ k, k < ec → x 118 k = nI (ep k)) (bp : ∀ k, k < ec → ep k < cN C) (hm : ∀ k, k < ec → x 119 k = nI (em k)) (bm : ∀ k, k < ec → em k < 1000) (h : Q (some (.int (fJudge S ec ep em))) x) : jo (d + 2) 57 [.ref 0] x Q := by
  have b3 := wc.2.2.1
  have loop : ∀ i, i ≤ ec → ∀ g, Q (some (.int (on1 (fun k => sH S (ep k) != em k) (ec - i) i))) x → jw (d + 1) kX6_judge Q 2 [some (.ref 0), some (.int (nI i)), g] [] x := by
    refine dn _ ec (fun g hq => ?_) (fun i hi ih g hq => ?_)
    · rw [Nat.sub_self] at hq
      iterate 4 refine jw_u rfl ?_
      refine jw_u rfl ⟨fun _ => ?_, fun (c' : ¬ x 116 2 ≤ nI ec) => absurd (by rw [h8]; exact Int32.le_refl _) c'⟩
      iterate 2 refine jw_u rfl ?_
      exact ⟨fun h => (by cases h), jret jm1 hq⟩
    · have e1 := bp i hi
      have e2 := bm i hi
      have e3 := ws.1 _ e1
      rw [show ec - i = (ec - (i + 1)) + 1 by omega, on1] at hq
      iterate 4 refine jw_u rfl ?_
      refine jw_u rfl ⟨fun (c' : x 116 2 ≤ nI i) => absurd c' (by rw [h8]; exact nI_ge hi (by omega)), fun _ => ?_⟩
      iterate 4 refine jw_u rfl ?_
      refine jw_u rfl (jaN (show i < 15 by omega) (by decide) (hp i hi) ?_)
      iterate 4 refine jw_u rfl ?_
      refine c_isPerson hC.2.2.1 (fun _ => ?_) (fun hc => absurd (ilt2 (by omega) e1) hc)
      refine jw_u rfl ⟨fun c => absurd c n10, fun _ => ?_⟩
      iterate 4 refine jw_u rfl ?_
      refine jw_u rfl (jaN (show ep i < 8 by omega) (by decide) (hS.1 _ e1) ?_)
      iterate 4 refine jw_u rfl ?_
      refine jw_u rfl (jaN (show i < 15 by omega) (by decide) (hm i hi) ?_)
      refine jw_u rfl ⟨fun (c' : nI (sH S (ep i)) = nI (em i)) => ?_, fun (c' : ¬ nI (sH S (ep i)) = nI (em i)) => ?_⟩
      · rw [nI_eq (by omega) (by omega)] at c'
        rw [if_neg (by simp [c'])] at hq
        have := ih (some (.int (nI (ep i)))) hq
        rw [nI_s i] at this
        iterate 2 refine jw_u rfl ?_
        exact this
      · rw [nI_eq (by omega) (by omega)] at c'
        rw [if_pos (by simp [c'])] at hq
        iterate 2 refine jw_u rfl ?_
        exact ⟨fun h => (by cases h), hq⟩
  refine jo_i rfl rfl (Nat.le_of_ble_eq_true rfl) ?_
  iterate 2 refine jw_u rfl ?_
  exact loop 0 (Nat.zero_le _) none h
theorem c_love {i : Int32} (hC : xC x 11 C) (hS : xS x 15 (cN C) S) (wc : wC C) (ws : wS (cN C) S) (h : Q (some (.int (fLove C S i))) x) : jo (d + 3) 48 [.ref 0, .int i] x Q := by
  have b3 := wc.2.2.1
  have c3 := hC.2.2.1
  have loop : ∀ p, p ≤ cN C → ∀ c g, c ≤ p → Q (some (.int (rsI i c (lvl (cN C) (sH S) p)))) x → jw (d + 2) kX6_love Q 4 [some (.ref 0), some (.int i), some (.int (nI c)), some (.int (nI p)), g] [] x := by
    refine dn _ (cN C) (fun c g hc hq => ?_) (fun p hp ih c g hc hq => ?_)
    · rw [lvl_n (Nat.le_refl _), rsI] at hq
      iterate 4 refine jw_u rfl ?_
      refine jw_u rfl ⟨fun _ => ?_, fun (c' : ¬ x 11 2 ≤ nI (cN C)) => absurd (by rw [c3]; exact Int32.le_refl _) c'⟩
      iterate 2 refine jw_u rfl ?_
      refine jw_u rfl ⟨fun (c' : ¬ i = jc (-1)) => ?_, fun (c' : i = jc (-1)) => ?_⟩
      · rw [jm1] at c'
        rw [if_neg c'] at hq
        iterate 2 refine jw_u rfl ?_
        exact ⟨fun h => (by cases h), jret jm1 hq⟩
      · rw [jm1] at c'
        rw [if_pos c'] at hq
        iterate 3 refine jw_u rfl ?_
        exact ⟨fun h => (by cases h), hq⟩
    · iterate 4 refine jw_u rfl ?_
      refine jw_u rfl ⟨fun (c' : x 11 2 ≤ nI p) => absurd c' (by rw [c3]; exact nI_ge hp (by omega)), fun _ => ?_⟩
      iterate 3 refine jw_u rfl ?_
      refine c_nearestTo c3 b3 hS.1 ws.1 hp ?_
      rw [lvl_c hp] at hq
      have skip : lv (cN C) (sH S) p = none → ∀ g, jw (d + 2) kX6_love Q 31 [some (.ref 0), some (.int i), some (.int (nI c)), some (.int (nI p)), g] [] x := by
        intro e g
        rw [e] at hq
        have := ih c g (by omega) hq
        rw [nI_s p] at this
        iterate 2 refine jw_u rfl ?_
        exact this
      cases hk : kn (cN C) (sH S) p with
      | none =>
        refine jtop (v' := -1) (by show oI (kn (cN C) (sH S) p) = _; rw [hk]; rfl) ?_
        iterate 3 refine jw_u rfl ?_
        refine jw_u rfl ⟨fun _ => ?_, fun (c' : ¬ (-1 : Int32) ≤ nI p) => ?_⟩
        · exact skip (by rw [lv, hk]) _
        · exact absurd (Int32.le_trans (by decide : (-1 : Int32) ≤ 0) (nI_pos' (by omega))) c'
      | some q =>
        have hq2 := am_lt hk
        refine jtop (v' := nI q) (by show oI (kn (cN C) (sH S) p) = _; rw [hk]; rfl) ?_
        iterate 3 refine jw_u rfl ?_
        refine jw_u rfl ⟨fun (c' : nI q ≤ nI p) => ?_, fun (c' : ¬ nI q ≤ nI p) => ?_⟩
        · rw [nI_leI (by omega) (by omega)] at c'
          exact skip (by rw [lv, hk]; dsimp only; rw [if_neg (by omega)]) _
        · rw [nI_leI (by omega) (by omega)] at c'
          iterate 3 refine jw_u rfl ?_
          refine c_nearestTo c3 b3 hS.1 ws.1 hq2 ?_
          refine jw_u rfl ?_
          have eqo : oI (kn (cN C) (sH S) q) = nI p ↔ kn (cN C) (sH S) q = some p := by
            cases hk2 : kn (cN C) (sH S) q with
            | none =>
              constructor
              · intro e
                have e : (-1 : Int32) = nI p := e
                have : nI p < 0 := by rw [← e]; decide
                exact absurd this (nI_pos (by omega))
              · intro e; cases e
            | some r =>
              have hr := am_lt hk2
              constructor
              · intro e
                have e : nI r = nI p := e
                rw [nI_eq (by omega) (by omega)] at e
                rw [e]
              · intro e; cases e; rfl
          refine jw_u rfl ⟨fun (c2 : ¬ oI (kn (cN C) (sH S) q) = nI p) => ?_, fun (c2 : oI (kn (cN C) (sH S) q) = nI p) => ?_⟩
          · rw [eqo] at c2
            exact skip (by rw [lv, hk]; dsimp only; rw [if_neg (fun hc => c2 hc.2)]) _
          · rw [eqo] at c2
            have e : lv (cN C) (sH S) p = some (p, q) := by rw [lv, hk]; dsimp only; rw [if_pos ⟨by omega, c2⟩]
            rw [e] at hq
            dsimp only at hq
            rw [rsI] at hq
            iterate 2 refine jw_u rfl ?_
            refine jw_u rfl ⟨fun (c4 : ¬ nI c = i) => ?_, fun (c4 : nI c = i) => ?_⟩
            · rw [if_neg c4] at hq
              have := ih (c + 1) (some (.int (nI q))) (by omega) hq
              rw [nI_s p, nI_s c] at this
              iterate 3 refine jw_u rfl ?_
              exact this
            · rw [if_pos c4] at hq
              iterate 3 refine jw_u rfl ?_
              refine jtop (pk_mul 10 p) ?_
              iterate 2 refine jw_u rfl ?_
              refine jtop (nI_add _ _) ?_
              refine jw_u rfl ?_
              exact ⟨fun h => (by cases h), hq⟩
  refine jo_i rfl rfl (Nat.le_of_ble_eq_true rfl) ?_
  iterate 4 refine jw_u rfl ?_
  exact loop 0 (Nat.zero_le _) 0 none (Nat.le_refl _) h
end CW
end
section
/-! THE CLASS: tree, heir, sham, turned, one -/
theorem tA_le {hd : Nat → Nat} {n : Nat} (bh : ∀ k, k < n → hd k < 1000) : ∀ t, tA hd n t ≤ t * 27
  | 0 => Nat.zero_le _
  | t + 1 => by
    have h1 := tA_le bh t
    rw [tA]
    cases hx : nx (tG hd n t) hd n with
    | none =>
      show tA hd n t + 0 ≤ _
      omega
    | some a =>
      obtain ⟨g1, g2, -⟩ := nx_some hx
      have := ap_lt (bh a.1 (by omega)) (bh a.2 g2)
      show tA hd n t + ap (hd a.1) (hd a.2) ≤ _
      omega
theorem sub1_le {n t : Nat} (hn : n ≤ 8) (ht : t ≤ 8) : nI n - nI 1 ≤ nI t ↔ n ≤ t + 1 := by
  rw [Int32.le_iff_toInt_le, nI_toInt (by omega)]
  have : (nI n - nI 1).toInt = (n : Int) - 1 := pk_sub_toInt (by omega) (by decide)
  rw [this]
  omega
section CX
variable {d : Nat} {x : jM} {Q : Option Value → jM → Prop} {C : aC} {S : aS}
set_option maxHeartbeats 1000000 in
theorem c_tree {i : Int32} (hC : xC x 11 C) (hS : xS x 15 (cN C) S) (wc : wC C) (ws : wS (cN C) S) (h : ∀ x', (∀ k, k ≠ 120 → x' k = x k) → Q (some (.int (fTree C S i))) x') : jo (d + 3) 40 [.ref 0, .int i] x Q := by
  have b3 := wc.2.2.1
  have c3 := hC.2.2.1
  have s1 := hS.1
  have w1 := ws.1
  have main : ∀ t, t ≤ cN C - 1 → ∀ x1 g, (∀ k, k ≠ 120 → x1 k = x k) → (∀ k, k < cN C → x1 120 k = nI (tG (sH S) (cN C) t k)) → (∀ t', t' < t → ¬ nI t' = i) → jw (d + 2) kX6_tree Q 18 [some (.ref 0), some (.int i), some (.int (nI (tA (sH S) (cN C) t))), some (.int (nI t)), g] [] x1 := by
    refine dn _ (cN C - 1) (fun x1 g e1 e2 hne => ?_) (fun t ht ih x1 g e1 e2 hne => ?_)
    · have e3 : x1 11 2 = nI (cN C) := by rw [e1 11 (by decide)]; exact c3
      iterate 4 refine jw_u rfl ?_
      refine jtop e3 ?_
      iterate 2 refine jw_u rfl ?_
      refine jw_u rfl ⟨fun _ => ?_, fun (c' : ¬ nI (cN C) - nI 1 ≤ nI (cN C - 1)) => absurd ((sub1_le b3 (by omega)).mpr (by omega)) c'⟩
      iterate 2 refine jw_u rfl ?_
      have h := h x1 e1
      unfold fTree at h
      refine jw_u rfl ⟨fun (c' : ¬ i = jc (-1)) => ?_, fun (c' : i = jc (-1)) => ?_⟩
      · rw [jm1] at c'
        rw [if_neg c', if_neg (fun hc => by
          obtain ⟨j, hj, rfl⟩ := ilt (by omega) hc
          exact hne j hj rfl)] at h
        iterate 2 refine jw_u rfl ?_
        exact ⟨fun h => (by cases h), jret jm1 h⟩
      · rw [jm1] at c'
        rw [if_pos c'] at h
        iterate 3 refine jw_u rfl ?_
        exact ⟨fun h => (by cases h), h⟩
    · have e3 : x1 11 2 = nI (cN C) := by rw [e1 11 (by decide)]; exact c3
      have e4 : ∀ k, k < cN C → x1 16 k = nI (sH S k) := fun k hk => by rw [e1 16 (by decide)]; exact s1 k hk
      obtain ⟨a, ha⟩ := tG_next (sH S) (n := cN C) (t := t) (by omega)
      obtain ⟨g1, g2, g3⟩ := nx_some ha
      have g4 := tA_le w1 t
      have g5 := ap_lt (w1 a.1 (by omega)) (w1 a.2 g2)
      iterate 4 refine jw_u rfl ?_
      refine jtop e3 ?_
      iterate 2 refine jw_u rfl ?_
      refine jw_u rfl ⟨fun (c' : nI (cN C) - nI 1 ≤ nI t) => absurd ((sub1_le b3 (by omega)).mp c') (by omega), fun _ => ?_⟩
      iterate 2 refine jw_u rfl ?_
      refine c_nextOfTree (G := tG (sH S) (cN C) t) e3 b3 e4 w1 e2 (fun k hk => tG_lt (sH S) (by omega) hk) ?_
      refine jtop (v' := nI (10 * a.1 + a.2)) (by rw [ha]; rfl) ?_
      iterate 3 refine jw_u rfl ?_
      refine jw_u rfl ⟨fun _ => ?_, fun (c' : nI (10 * a.1 + a.2) = jc (-1)) => ?_⟩
      rotate_left
      · rw [jm1] at c'
        have : nI (10 * a.1 + a.2) < 0 := by rw [c']; decide
        exact absurd this (nI_pos (by omega))
      iterate 2 refine jw_u rfl ?_
      refine jw_u rfl ⟨fun (c' : ¬ nI t = i) => ?_, fun (c' : nI t = i) => ?_⟩
      · iterate 6 refine jw_u rfl ?_
        refine jw_u rfl ⟨by decide, ?_⟩
        refine jtop (v' := nI a.1) (by show nI (10 * a.1 + a.2) / nI 10 = _; rw [pk_div (by omega) (by decide) (by decide)]; congr 1; omega) ?_
        refine jw_u rfl (jaN (show a.1 < 8 by omega) (by decide) (e4 a.1 (by omega)) ?_)
        iterate 5 refine jw_u rfl ?_
        refine jw_u rfl ⟨by decide, ?_⟩
        refine jtop (v' := nI a.2) (by show nI (10 * a.1 + a.2) - nI (10 * a.1 + a.2) / nI 10 * nI 10 = _; rw [pk_rem (by omega) (by decide) (by decide)]; congr 1; omega) ?_
        refine jw_u rfl (jaN (show a.2 < 8 by omega) (by decide) (e4 a.2 g2) ?_)
        refine jw_u rfl ?_
        refine c_apart (w1 a.1 (by omega)) (w1 a.2 g2) ?_
        refine jw_u rfl ?_
        refine jtop (nI_add _ _) ?_
        iterate 4 refine jw_u rfl ?_
        refine jw_u rfl ⟨by decide, ?_⟩
        refine jtop (v' := nI a.1) (by show nI (10 * a.1 + a.2) / nI 10 = _; rw [pk_div (by omega) (by decide) (by decide)]; congr 1; omega) ?_
        iterate 2 refine jw_u rfl ?_
        refine jw_u rfl ⟨by decide, ?_⟩
        refine jtop (v' := nI a.2) (by show nI (10 * a.1 + a.2) - nI (10 * a.1 + a.2) / nI 10 * nI 10 = _; rw [pk_rem (by omega) (by decide) (by decide)]; congr 1; omega) ?_
        refine jw_u rfl ?_
        refine c_joinGroups (G := tG (sH S) (cN C) t) e3 b3 e2 (fun k hk => tG_lt (sH S) (by omega) hk) (by omega) g2 (fun x2 f1 f2 => ?_)
        iterate 2 refine jw_u rfl ?_
        have := ih x2 (some (.int (nI (10 * a.1 + a.2)))) (fun k hk => (f1 k hk).trans (e1 k hk)) (fun k hk => by rw [f2 k hk, tG, ha]) (fun t' ht' => by
          by_cases e : t' = t
          · rw [e]; exact c'
          · exact hne t' (by omega))
        rw [nI_s t, tA, ha] at this
        exact this
      · have h := h x1 e1
        unfold fTree at h
        rw [if_neg (fun e => by
          rw [e] at c'
          have : nI t < 0 := by rw [c']; decide
          exact absurd this (nI_pos (by omega))), if_pos (by rw [← c']; exact ilt2 (by omega) ht), ← c', nI_clamp (by omega), ha] at h
        iterate 2 refine jw_u rfl ?_
        exact ⟨fun h => (by cases h), h⟩
  have first : ∀ p, p ≤ cN C → ∀ x1 g3 g4, (∀ k, k ≠ 120 → x1 k = x k) → (∀ k, k < p → x1 120 k = nI k) → jw (d + 2) kX6_tree Q 2 [some (.ref 0), some (.int i), some (.int (nI p)), g3, g4] [] x1 := by
    refine dn _ (cN C) (fun x1 g3 g4 e1 e2 => ?_) (fun p hp ih x1 g3 g4 e1 e2 => ?_)
    · have e3 : x1 11 2 = nI (cN C) := by rw [e1 11 (by decide)]; exact c3
      iterate 4 refine jw_u rfl ?_
      refine jw_u rfl ⟨fun _ => ?_, fun (c' : ¬ x1 11 2 ≤ nI (cN C)) => absurd (by rw [e3]; exact Int32.le_refl _) c'⟩
      iterate 4 refine jw_u rfl ?_
      exact main 0 (Nat.zero_le _) x1 g4 e1 e2 (fun t' ht' => absurd ht' (Nat.not_lt_zero _))
    · have e3 : x1 11 2 = nI (cN C) := by rw [e1 11 (by decide)]; exact c3
      iterate 4 refine jw_u rfl ?_
      refine jw_u rfl ⟨fun (c' : x1 11 2 ≤ nI p) => absurd c' (by rw [e3]; exact nI_ge hp (by omega)), fun _ => ?_⟩
      iterate 4 refine jw_u rfl ?_
      refine jw_u rfl (jsN (show p < 8 by omega) (by decide) ?_)
      iterate 2 refine jw_u rfl ?_
      have := ih (ju x1 120 p (nI p)) g3 g4 (fun k hk => by rw [ju_oo hk]; exact e1 k hk) (fun k hk => by
        by_cases e : k = p
        · subst e; exact ju_s _ _ _ _
        · rw [ju_k e]; exact e2 k (by omega))
      rw [nI_s p] at this
      exact this
  refine jo_i rfl rfl (Nat.le_of_ble_eq_true rfl) ?_
  iterate 2 refine jw_u rfl ?_
  exact first 0 (Nat.zero_le _) x none none (fun _ _ => rfl) (fun k hk => absurd hk (Nat.not_lt_zero _))
theorem c_heir {m : Int32} (hC : xC x 11 C) (hS : xS x 15 (cN C) S) (wc : wC C) (ws : wS (cN C) S) (h : ∀ x', (∀ k, k < 19 ∨ 22 < k → x' k = x k) → Q (some (.int (fHeir C S m))) x') : jo (d + 4) 46 [.ref 0, .int m] x Q := by
  obtain ⟨-, c2, c3, -, c5, c6, -⟩ := hC
  obtain ⟨-, b2, b3, -, b5, b6, -⟩ := wc
  obtain ⟨w1, w2, w3, w4, w5⟩ := ws
  refine jo_i rfl rfl (Nat.le_of_ble_eq_true rfl) ?_
  refine jw_u rfl ?_
  have out : ¬ (0 ≤ m ∧ m < nI 61) → jw (d + 3) kX6_heir Q 5 [some (.ref 0), some (.int m), none, none, none, none] [] x := by
    intro hm
    have h := h x (fun _ _ => rfl)
    unfold fHeir at h
    rw [if_neg hm] at h
    iterate 2 refine jw_u rfl ?_
    exact ⟨fun h => (by cases h), h⟩
  refine jw_u rfl ⟨fun (c : m < 0) => out (fun hc => absurd hc.1 (by simpa using c)), fun (c : ¬ m < 0) => ?_⟩
  iterate 2 refine jw_u rfl ?_
  refine jw_u rfl ⟨fun (c' : m ≤ nI 60) => ?_, fun (c' : ¬ m ≤ nI 60) => out (fun hc => ?_)⟩
  rotate_left
  · obtain ⟨j, hj, rfl⟩ := ilt (by decide) hc
    exact c' (nI_le (by omega) (by decide))
  obtain ⟨j, hj, rfl⟩ := nI_of2 (n := 60) (by decide) c c'
  have hm : 0 ≤ nI j ∧ nI j < nI 61 := ilt2 (by decide) (by omega)
  iterate 5 refine jw_u rfl ?_
  refine c_takeS stI_19 stI_15 ?_
  have hX := xS_cp (x := x) (o := 19) (s := 15) (n := cN C) (Or.inr (by decide)) b3 w2 hS
  have fr : ∀ k, k < 19 ∨ 22 < k → cpS x 19 15 k = x k := fun k hk => cpS_f (by omega)
  generalize cpS x 19 15 = x1 at hX fr ⊢
  have f11 := fr 11 (by omega)
  iterate 5 refine jw_u rfl ?_
  refine c_passYears (o := 19) (hd := sH S) (dr := cDr C) (Or.inr rfl) (by omega) (Nat.le_trans w5 (by decide)) (by rw [f11]; exact c3) b3 (by rw [f11]; exact c2) b2 (fun k hk => by rw [fr 13 (by omega)]; exact c6 k hk) b6 hX.1 w1 hX.2.2.2.2 (fun x2 y1 y2 y3 y4 => ?_)
  have fr2 : ∀ k, k < 19 ∨ 22 < k → x2 k = x k := fun k hk => by rw [y1 k (by omega) (by omega)]; exact fr k hk
  have h := h x2 fr2
  unfold fHeir at h
  rw [if_pos hm, nI_clamp (by omega)] at h
  have e3 : x2 11 2 = nI (cN C) := by rw [fr2 11 (by omega)]; exact c3
  have e2 : x2 11 1 = nI (cG C) := by rw [fr2 11 (by omega)]; exact c2
  have b1 : ∀ k, k < cN C → ya (cDr C k) (cG C) (sY S) (sH S k) j < 1000 := fun k hk => ya_lt (w1 k hk) b2 j
  have bf : ∀ k, k < cN C → ap (ya (cDr C k) (cG C) (sY S) (sH S k) j) (cG C) ≤ 27 := fun k hk => ap_lt (b1 k hk) b2
  generalize hf : (fun p => ap (ya (cDr C p) (cG C) (sY S) (sH S p) j) (cG C)) = f at h
  have hfv : ∀ k, ap (ya (cDr C k) (cG C) (sY S) (sH S k) j) (cG C) = f k := fun k => by rw [← hf]
  have loop : ∀ i, i ≤ cN C → ∀ g, jw (d + 3) kX6_heir Q 23 [some (.ref 0), some (.int (nI j)), some (.int (oI (am f (fun _ => true) i))), some (.int (nI (oF f 100 (am f (fun _ => true) i)))), some (.int (nI i)), g] [] x2 := by
    have bf' : ∀ k, k < cN C → f k ≤ 27 := fun k hk => by rw [← hfv]; exact bf k hk
    refine dn _ (cN C) (fun g => ?_) (fun i hi ih g => ?_)
    · iterate 4 refine jw_u rfl ?_
      refine jw_u rfl ⟨fun _ => ?_, fun (c' : ¬ x2 11 2 ≤ nI (cN C)) => absurd (by rw [e3]; exact Int32.le_refl _) c'⟩
      iterate 2 refine jw_u rfl ?_
      exact ⟨fun h => (by cases h), h⟩
    · have q1 := oF_lt (f := f) (ok := fun _ => true) (Nat.le_of_lt hi) bf'
      have q2 := bf' i hi
      have ih := ih (some (.int (nI (f i))))
      rw [nI_s i] at ih
      iterate 4 refine jw_u rfl ?_
      refine jw_u rfl ⟨fun (c' : x2 11 2 ≤ nI i) => absurd c' (by rw [e3]; exact nI_ge hi (by omega)), fun _ => ?_⟩
      iterate 4 refine jw_u rfl ?_
      refine jw_u rfl (jaN (show i < 8 by omega) (by decide) (y4 i hi) ?_)
      iterate 3 refine jw_u rfl ?_
      refine jtop e2 ?_
      refine jw_u rfl ?_
      refine c_apart (b1 i hi) b2 ?_
      refine jtop (v' := nI (f i)) (by rw [hfv]) ?_
      iterate 3 refine jw_u rfl ?_
      refine jw_u rfl ⟨fun (c' : nI (oF f 100 _) ≤ nI (f i)) => ?_, fun (c' : ¬ nI (oF f 100 _) ≤ nI (f i)) => ?_⟩
      · rw [nI_leI (by omega) (by omega)] at c'
        have e := am_no (f := f) (ok := fun _ => true) (i := i) (Or.inr (oF_le (by omega) c'))
        rw [e] at ih
        iterate 2 refine jw_u rfl ?_
        exact ih
      · rw [nI_leI (by omega) (by omega)] at c'
        have e := am_yes (f := f) (ok := fun _ => true) (i := i) rfl (oF_gt (Nat.not_le.mp c'))
        rw [e] at ih
        iterate 6 refine jw_u rfl ?_
        exact ih
  iterate 6 refine jw_u rfl ?_
  exact loop 0 (Nat.zero_le _) none
end CX
end
section
/-! THE CLASS: sham, turned, one -/
theorem mn_s1 {v w : Nat} (hv : v < 1000) (hw : w < 1000) : (if nI w - nI 1 < nI v - nI 1 then nI w - nI 1 else nI v - nI 1) = nI (min v w) - nI 1 := by
  have e1 : (nI w - nI 1).toInt = (w : Int) - 1 := pk_sub_toInt (by omega) (by decide)
  have e2 : (nI v - nI 1).toInt = (v : Int) - 1 := pk_sub_toInt (by omega) (by decide)
  by_cases h : w < v
  · rw [if_pos (by rw [Int32.lt_iff_toInt_lt, e1, e2]; omega), Nat.min_eq_right (by omega)]
  · rw [if_neg (by rw [Int32.lt_iff_toInt_lt, e1, e2]; omega), Nat.min_eq_left (by omega)]
theorem s1a (v : Nat) : nI (v + 1) - nI 1 = nI v := pk_sub (a := v + 1) (b := 1) (by omega)
section CY
variable {d : Nat} {x : jM} {Q : Option Value → jM → Prop} {C : aC} {S : aS}
theorem c_sham {p : Int32} (hC : xC x 11 C) (hS : xS x 15 (cN C) S) (wc : wC C) (ws : wS (cN C) S) (h : Q (some (.int (fSham C S p))) x) : jo (d + 2) 47 [.ref 0, .int p] x Q := by
  have b3 := wc.2.2.1
  have b2 := wc.2.1
  have c3 := hC.2.2.1
  have c2 := hC.2.1
  have s1 := hS.1
  have w1 := ws.1
  refine jo_i rfl rfl (Nat.le_of_ble_eq_true rfl) ?_
  iterate 3 refine jw_u rfl ?_
  unfold fSham at h
  refine c_isPerson c3 (fun hp => ?_) (fun hp => ?_)
  rotate_left
  · refine jw_u rfl ⟨fun c => absurd n00 c, fun _ => ?_⟩
    rw [if_neg hp] at h
    iterate 2 refine jw_u rfl ?_
    exact ⟨fun h => (by cases h), h⟩
  refine jw_u rfl ⟨fun _ => ?_, fun c => absurd c n10⟩
  rw [if_pos hp] at h
  obtain ⟨j, hj, rfl⟩ := ilt (by omega) hp
  rw [nI_clamp (by omega)] at h
  have bf : ∀ k, k < cN C → ap (sH S k) (cG C) ≤ 27 := fun k hk => ap_lt (w1 k hk) b2
  have bo := bf j hj
  have loop : ∀ i, i ≤ cN C → ∀ g, jw (d + 1) kX6_sham Q 10 [some (.ref 0), some (.int (nI j)), some (.int (nI (al (fun k => ap (sH S k) (cG C)) j 101 i) - nI 1)), some (.int (nI i)), g] [] x := by
    refine dn _ (cN C) (fun g => ?_) (fun i hi ih g => ?_)
    · have q1 := al_le (f := fun k => ap (sH S k) (cG C)) (j := j) (z := 101) (cN C)
      have q2 := al_min (f := fun k => ap (sH S k) (cG C)) (j := j) (z := 101) (w := 1000001) (by decide) (cN C)
      generalize al (fun k => ap (sH S k) (cG C)) j 101 (cN C) = v at q1 q2 ⊢
      generalize al (fun k => ap (sH S k) (cG C)) j 1000001 (cN C) = w at q2 h
      have e2 : (nI v - nI 1).toInt = (v : Int) - 1 := pk_sub_toInt (by omega) (by decide)
      iterate 4 refine jw_u rfl ?_
      refine jw_u rfl ⟨fun _ => ?_, fun (c' : ¬ x 11 2 ≤ nI (cN C)) => absurd (by rw [c3]; exact Int32.le_refl _) c'⟩
      refine jw_u rfl ?_
      refine jw_u rfl ⟨fun (c' : 0 ≤ nI v - nI 1) => ?_, fun (c' : ¬ 0 ≤ nI v - nI 1) => ?_⟩
      · have hv : 1 ≤ v := by
          rw [Int32.le_iff_toInt_le, e2] at c'
          have : (0 : Int32).toInt = 0 := by decide
          omega
        iterate 5 refine jw_u rfl ?_
        refine jw_u rfl (jaN (show j < 8 by omega) (by decide) (s1 j hj) ?_)
        iterate 3 refine jw_u rfl ?_
        refine jtop c2 ?_
        refine jw_u rfl ?_
        refine c_apart (w1 j hj) b2 ?_
        iterate 3 refine jw_u rfl ?_
        refine jw_u rfl ?_
        refine ⟨fun h => (by cases h), ?_⟩
        unfold shR at h
        rw [if_neg (by omega)] at h
        refine jret ?_ h
        show (if nI 0 < nI (ap (sH S j) (cG C)) - (nI v - nI 1) then nI (ap (sH S j) (cG C)) - (nI v - nI 1) else nI 0) = _
        obtain ⟨u, rfl⟩ : ∃ u, v = u + 1 := ⟨v - 1, by omega⟩
        rw [s1a]
        have e3 : ap (sH S j) (cG C) - (w - 1) = ap (sH S j) (cG C) - u := by omega
        rw [e3]
        by_cases hlt : u < ap (sH S j) (cG C)
        · rw [pk_sub (by omega), if_pos (nI_lt (by omega) (by omega))]
        · have : ¬ nI 0 < nI (ap (sH S j) (cG C)) - nI u := by
            rw [Int32.lt_iff_toInt_lt, pk_sub_toInt (by omega) (by omega), nI_toInt (by decide)]
            omega
          rw [if_neg this, show ap (sH S j) (cG C) - u = 0 by omega]
      · have hv : v = 0 := by
          rw [Int32.le_iff_toInt_le, e2] at c'
          have : (0 : Int32).toInt = 0 := by decide
          omega
        unfold shR at h
        rw [if_pos (by omega)] at h
        iterate 2 refine jw_u rfl ?_
        exact ⟨fun h => (by cases h), jret jm1 h⟩
    · have q1 := al_le (f := fun k => ap (sH S k) (cG C)) (j := j) (z := 101) i
      have q3 := bf i hi
      rw [nI_s i] at ih
      iterate 4 refine jw_u rfl ?_
      refine jw_u rfl ⟨fun (c' : x 11 2 ≤ nI i) => absurd c' (by rw [c3]; exact nI_ge hi (by omega)), fun _ => ?_⟩
      iterate 2 refine jw_u rfl ?_
      refine jw_u rfl ⟨fun (c' : nI i = nI j) => ?_, fun (c' : ¬ nI i = nI j) => ?_⟩
      · rw [nI_eq (by omega) (by omega)] at c'
        have ih := ih g
        rw [al, if_pos c'] at ih
        iterate 2 refine jw_u rfl ?_
        exact ih
      rw [nI_eq (by omega) (by omega)] at c'
      have ih := ih (some (.int (nI (ap (sH S i) (cG C)))))
      rw [al, if_neg c'] at ih
      iterate 4 refine jw_u rfl ?_
      refine jw_u rfl (jaN (show i < 8 by omega) (by decide) (s1 i hi) ?_)
      iterate 3 refine jw_u rfl ?_
      refine jtop c2 ?_
      refine jw_u rfl ?_
      refine c_apart (w1 i hi) b2 ?_
      iterate 4 refine jw_u rfl ?_
      refine jw_u rfl ⟨fun (c2 : nI j ≤ nI i) => ?_, fun (c2 : ¬ nI j ≤ nI i) => ?_⟩
      · rw [nI_leI (by omega) (by omega)] at c2
        rw [if_neg (by omega)] at ih
        iterate 1 refine jw_u rfl ?_
        refine jtop (s1a _).symm ?_
        refine jw_u rfl ?_
        refine jtop (mn_s1 (by omega) (by omega)) ?_
        iterate 3 refine jw_u rfl ?_
        exact ih
      · rw [nI_leI (by omega) (by omega)] at c2
        rw [if_pos (by omega)] at ih
        iterate 5 refine jw_u rfl ?_
        refine jtop (mn_s1 (by omega) (by omega)) ?_
        iterate 3 refine jw_u rfl ?_
        exact ih
  iterate 4 refine jw_u rfl ?_
  have := loop 0 (Nat.zero_le _) none
  rw [show nI (al (fun k => ap (sH S k) (cG C)) j 101 0) - nI 1 = nI 100 from (by decide : nI 101 - nI 1 = nI 100)] at this
  exact this
theorem oI_eq {o : Option Nat} {c : Nat} (hc : c < 1000) (ho : ∀ b, o = some b → b < 1000) : oI o = nI c ↔ o = some c := by
  cases o with
  | none =>
    constructor
    · intro e
      have e : (-1 : Int32) = nI c := e
      have : nI c < 0 := by rw [← e]; decide
      exact absurd this (nI_pos (by omega))
    · intro e; cases e
  | some r =>
    have hr := ho r rfl
    constructor
    · intro e
      have e : nI r = nI c := e
      rw [nI_eq (by omega) (by omega)] at e
      rw [e]
    · intro e; cases e; rfl
theorem c_turned {m c : Int32} (hC : xC x 11 C) (wc : wC C) (h : Q (some (.int (fTurned C m c))) x) : jo (d + 3) 50 [.ref 0, .int m, .int c] x Q := by
  obtain ⟨-, -, -, c4, -, -, c7⟩ := hC
  obtain ⟨-, -, -, b4, -, -, b7⟩ := wc
  refine jo_i rfl rfl (Nat.le_of_ble_eq_true rfl) ?_
  iterate 3 refine jw_u rfl ?_
  unfold fTurned at h
  refine c_isCandidate c4 (fun hp => ?_) (fun hp => ?_)
  rotate_left
  · refine jw_u rfl ⟨fun c => absurd n00 c, fun _ => ?_⟩
    rw [if_neg hp] at h
    iterate 2 refine jw_u rfl ?_
    exact ⟨fun h => (by cases h), h⟩
  refine jw_u rfl ⟨fun _ => ?_, fun c => absurd c n10⟩
  rw [if_pos hp] at h
  iterate 2 refine jw_u rfl ?_
  refine c_isMark (fun hm => ?_) (fun hm => ?_)
  rotate_left
  · refine jw_u rfl ⟨fun c => absurd n00 c, fun _ => ?_⟩
    rw [if_neg hm] at h
    iterate 2 refine jw_u rfl ?_
    exact ⟨fun h => (by cases h), h⟩
  refine jw_u rfl ⟨fun _ => ?_, fun c => absurd c n10⟩
  rw [if_pos hm] at h
  obtain ⟨j, hj, rfl⟩ := ilt (by omega) hp
  obtain ⟨a, ha, rfl⟩ := ilt (by decide) hm
  rw [nI_clamp (by omega), nI_clamp (by omega)] at h
  have loop : ∀ i, i ≤ 1000 → ∀ g, jw (d + 2) kX6_turned Q 15 [some (.ref 0), some (.int (nI a)), some (.int (nI j)), some (.int (nI (tn C a j 100 i))), some (.int (nI i)), g] [] x := by
    refine dn _ 1000 (fun g => ?_) (fun i hi ih g => ?_)
    · have q1 := tn_le (C := C) (a := a) (c := j) (z := 100) 1000
      iterate 2 refine jw_u rfl ?_
      refine jw_u rfl ⟨fun _ => ?_, fun (c' : ¬ nI 1000 ≤ nI 1000) => absurd (Int32.le_refl _) c'⟩
      iterate 2 refine jw_u rfl ?_
      refine jw_u rfl ⟨fun (c' : ¬ nI (tn C a j 100 1000) = nI 100) => ?_, fun (c' : nI (tn C a j 100 1000) = nI 100) => ?_⟩
      · rw [nI_eq (by omega) (by decide)] at c'
        rw [if_neg c'] at h
        iterate 2 refine jw_u rfl ?_
        exact ⟨fun h => (by cases h), h⟩
      · rw [nI_eq (by omega) (by decide)] at c'
        rw [if_pos c'] at h
        iterate 3 refine jw_u rfl ?_
        exact ⟨fun h => (by cases h), jret jm1 h⟩
    · have q1 := tn_le (C := C) (a := a) (c := j) (z := 100) i
      have q2 := ap_lt ha hi
      have ih := ih (some (.int (nI (ap a i))))
      rw [nI_s i] at ih
      iterate 2 refine jw_u rfl ?_
      refine jw_u rfl ⟨fun (c' : nI 1000 ≤ nI i) => absurd c' (nI_ge hi (by decide)), fun _ => ?_⟩
      iterate 3 refine jw_u rfl ?_
      refine c_apart ha hi ?_
      iterate 3 refine jw_u rfl ?_
      refine jw_u rfl ⟨fun (c' : nI (tn C a j 100 i) ≤ nI (ap a i)) => ?_, fun (c' : ¬ nI (tn C a j 100 i) ≤ nI (ap a i)) => ?_⟩
      · rw [nI_leI (by omega) (by omega)] at c'
        rw [tn, if_neg (fun hc => absurd hc.1 (by omega))] at ih
        iterate 2 refine jw_u rfl ?_
        exact ih
      · rw [nI_leI (by omega) (by omega)] at c'
        iterate 3 refine jw_u rfl ?_
        refine c_choice c4 b4 c7 b7 hi ?_
        refine jw_u rfl ?_
        have eo : oI (ch C i) = nI j ↔ ch C i = some j := oI_eq (by omega) (fun b hb => by have := am_lt hb; omega)
        refine jw_u rfl ⟨fun (c2 : ¬ oI (ch C i) = nI j) => ?_, fun (c2 : oI (ch C i) = nI j) => ?_⟩
        · rw [eo] at c2
          rw [tn, if_neg (fun hc => c2 hc.2)] at ih
          iterate 2 refine jw_u rfl ?_
          exact ih
        · rw [eo] at c2
          rw [tn, if_pos ⟨by omega, c2⟩] at ih
          iterate 4 refine jw_u rfl ?_
          exact ih
  iterate 4 refine jw_u rfl ?_
  exact loop 0 (Nat.zero_le _) none
theorem c_one {p q : Int32} (hC : xC x 11 C) (hS : xS x 15 (cN C) S) (wc : wC C) (ws : wS (cN C) S) (h : ∀ x', (∀ k, k < 19 ∨ 22 < k → x' k = x k) → Q (some (.int (fOne C S p q))) x') : jo (d + 4) 51 [.ref 0, .int p, .int q] x Q := by
  obtain ⟨-, c2, c3, -, c5, c6, -⟩ := hC
  obtain ⟨-, b2, b3, -, b5, b6, -⟩ := wc
  obtain ⟨w1, w2, w3, w4, w5⟩ := ws
  have out : ¬ ((0 ≤ p ∧ p < nI (cN C)) ∧ (0 ≤ q ∧ q < nI (cN C)) ∧ ¬ p = q) → jw (d + 3) kX6_one Q 11 [some (.ref 0), some (.int p), some (.int q), none] [] x := by
    intro hm
    have h := h x (fun _ _ => rfl)
    unfold fOne at h
    rw [if_neg hm] at h
    iterate 2 refine jw_u rfl ?_
    exact ⟨fun h => (by cases h), h⟩
  refine jo_i rfl rfl (Nat.le_of_ble_eq_true rfl) ?_
  iterate 3 refine jw_u rfl ?_
  refine c_isPerson c3 (fun hp => ?_) (fun hp => ?_)
  rotate_left
  · refine jw_u rfl ⟨fun _ => out (fun hc => hp hc.1), fun c => absurd n00 c⟩
  refine jw_u rfl ⟨fun c => absurd c n10, fun _ => ?_⟩
  iterate 3 refine jw_u rfl ?_
  refine c_isPerson c3 (fun hq => ?_) (fun hq => ?_)
  rotate_left
  · refine jw_u rfl ⟨fun _ => out (fun hc => hq hc.2.1), fun c => absurd n00 c⟩
  refine jw_u rfl ⟨fun c => absurd c n10, fun _ => ?_⟩
  iterate 2 refine jw_u rfl ?_
  refine jw_u rfl ⟨fun (c' : ¬ p = q) => ?_, fun (c' : p = q) => out (fun hc => hc.2.2 c')⟩
  have hm : (0 ≤ p ∧ p < nI (cN C)) ∧ (0 ≤ q ∧ q < nI (cN C)) ∧ ¬ p = q := ⟨hp, hq, c'⟩
  obtain ⟨j, hj, rfl⟩ := ilt (by omega) hp
  obtain ⟨k, hk, rfl⟩ := ilt (by omega) hq
  unfold fOne at h
  rw [if_pos hm, nI_clamp (by omega), nI_clamp (by omega)] at h
  iterate 5 refine jw_u rfl ?_
  refine c_takeS stI_19 stI_15 ?_
  have hX := xS_cp (x := x) (o := 19) (s := 15) (n := cN C) (Or.inr (by decide)) b3 w2 hS
  have fr : ∀ k, k < 19 ∨ 22 < k → cpS x 19 15 k = x k := fun k hk => cpS_f (by omega)
  generalize cpS x 19 15 = x1 at hX fr ⊢
  have loop : ∀ t, t ≤ 61 → ∀ x2, (∀ k, k < 19 ∨ 22 < k → x2 k = x k) → (∀ k, k < cN C → x2 20 k = nI (ya (cDr C k) (cG C) (sY S) (sH S k) t)) → x2 19 4 = nI (sY S + t) → (∀ x', (∀ k, k < 19 ∨ 22 < k → x' k = x k) → Q (some (.int (on1 (oneP C S j k) (61 - t) t))) x') → jw (d + 3) kX6_one Q 20 [some (.ref 0), some (.int (nI j)), some (.int (nI k)), some (.int (nI t))] [] x2 := by
    refine dn _ 61 (fun x2 f1 f2 f3 hq => ?_) (fun t ht ih x2 f1 f2 f3 hq => ?_)
    · iterate 2 refine jw_u rfl ?_
      refine jw_u rfl ⟨fun _ => ?_, fun (c' : ¬ nI 60 < nI 61) => absurd (by decide) c'⟩
      iterate 2 refine jw_u rfl ?_
      exact ⟨fun h => (by cases h), jret jm1 (hq x2 f1)⟩
    · have e3 : x2 11 2 = nI (cN C) := by rw [f1 11 (by omega)]; exact c3
      have e2 : x2 11 1 = nI (cG C) := by rw [f1 11 (by omega)]; exact c2
      have b1 : ∀ k, k < cN C → ya (cDr C k) (cG C) (sY S) (sH S k) t < 1000 := fun k hk => ya_lt (w1 k hk) b2 t
      rw [show 61 - t = (61 - (t + 1)) + 1 by omega, on1] at hq
      iterate 2 refine jw_u rfl ?_
      refine jw_u rfl ⟨fun (c' : nI 60 < nI t) => absurd c' (nI_nlt (by omega) (by decide)), fun _ => ?_⟩
      iterate 6 refine jw_u rfl ?_
      refine c_toldApart (o := 19) (hd := fun k => ya (cDr C k) (cG C) (sY S) (sH S k) t) (Or.inr rfl) b3 f2 (fun k hk => by rw [f1 12 (by omega)]; exact c5 k hk) b1 b5 hj hk (fun hw => ?_) (fun hw => ?_)
      · have hw : oneP C S j k t = false := hw
        refine jw_u rfl ⟨fun _ => ?_, fun c => absurd c n10⟩
        iterate 5 refine jw_u rfl ?_
        refine c_passYears (o := 19) (m := 1) (y := sY S + t) (hd := fun k => ya (cDr C k) (cG C) (sY S) (sH S k) t) (dr := cDr C) (Or.inr rfl) (by decide) (by omega) e3 b3 e2 b2 (fun k hk => by rw [f1 13 (by omega)]; exact c6 k hk) b6 f2 b1 f3 (fun x3 y1 y2 y3 y4 => ?_)
        iterate 2 refine jw_u rfl ?_
        have := ih x3 (fun k hk => by rw [y1 k (by omega) (by omega)]; exact f1 k hk) (fun k hk => by rw [y4 k hk]; rfl) y3 (fun x' hx' => by
          have := hq x' hx'
          rw [if_neg (by rw [hw]; decide)] at this
          exact this)
        rw [nI_s t] at this
        exact this
      · have hw : oneP C S j k t = true := hw
        refine jw_u rfl ⟨fun c => absurd n00 c, fun _ => ?_⟩
        have := hq x2 f1
        rw [if_pos hw] at this
        iterate 2 refine jw_u rfl ?_
        exact ⟨fun h => (by cases h), this⟩
  iterate 2 refine jw_u rfl ?_
  exact loop 0 (Nat.zero_le _) x1 fr hX.1 hX.2.2.2.2 h
end CY
end
section
/-! THE WHOLE STATE, and what the class's cells say of it -/
abbrev aN : Type := Nat × (Nat → Nat)
abbrev aB : Type := Nat × (Nat → Nat) × (Nat → Nat)
abbrev aX : Type := aC × aS × List aS × (Nat → Option (aS × Nat)) × aN × aB × Nat × Int32 × aN
abbrev gC (z : aX) : aC := z.1
abbrev gS (z : aX) : aS := z.2.1
abbrev gH (z : aX) : List aS := z.2.2.1
abbrev gI (z : aX) : Nat → Option (aS × Nat) := z.2.2.2.1
abbrev gN (z : aX) : aN := z.2.2.2.2.1
abbrev gB (z : aX) : aB := z.2.2.2.2.2.1
abbrev gD (z : aX) : Nat := z.2.2.2.2.2.2.1
abbrev gF (z : aX) : Int32 := z.2.2.2.2.2.2.2.1
abbrev gT (z : aX) : aN := z.2.2.2.2.2.2.2.2
def wX (z : aX) : Prop := wC (gC z) ∧ wS (cN (gC z)) (gS z) ∧ ((gH z).length ≤ 20 ∧ ∀ S ∈ gH z, wS (cN (gC z)) S) ∧ (∀ i S s, gI z i = some (S, s) → wS (cN (gC z)) S ∧ s < 2147483648) ∧ ((gN z).1 ≤ 8 ∧ ∀ k, k < (gN z).1 → (gN z).2 k < 1000) ∧ ((gB z).1 ≤ 15 ∧ ∀ k, k < (gB z).1 → (gB z).2.1 k < cN (gC z) ∧ (gB z).2.2 k < 1000) ∧ gD z < 2147483648 ∧ ((gT z).1 ≤ 240 ∧ ∀ k, k < (gT z).1 → (gT z).2 k ≤ 255)
def xH (x : jM) (n : Nat) (hs : List aS) (nx : Nat) : Prop := x 23 1 = nI hs.length ∧ x 23 2 = nI nx ∧ nx < 20 ∧ hs.length ≤ 20 ∧ ∀ k S, hs[k]? = some S → xS x (25 + 4 * ((nx + 19 - k) % 20)) n S
def xI (x : jM) (n : Nat) (im : Nat → Option (aS × Nat)) : Prop := ∀ i, i < 2 → (im i = none → x (106 + 5 * i) 0 = nI 0) ∧ (∀ S s, im i = some (S, s) → x (106 + 5 * i) 0 = nI 1 ∧ xS x (107 + 5 * i) n S ∧ x (106 + 5 * i) 2 = nI s)
def xN (x : jM) (u : aN) (v : aB) : Prop := x 116 0 = nI u.1 ∧ (∀ k, k < u.1 → x 117 k = nI (u.2 k)) ∧ x 116 2 = nI v.1 ∧ (∀ k, k < v.1 → x 118 k = nI (v.2.1 k)) ∧ (∀ k, k < v.1 → x 119 k = nI (v.2.2 k))
def xT (x : jM) (u : aN) : Prop := x 1 1 = nI u.1 ∧ (∀ k, k < u.1 → x 2 k = nI (u.2 k))
def RX (z : aX) (x : jM) : Prop := xC x 11 (gC z) ∧ xS x 15 (cN (gC z)) (gS z) ∧ (∃ nx, xH x (cN (gC z)) (gH z) nx) ∧ xI x (cN (gC z)) (gI z) ∧ xN x (gN z) (gB z) ∧ x 0 8 = nI (gD z) ∧ x 0 9 = gF z ∧ xT x (gT z)
theorem xH_f {x x' : jM} {n nx : Nat} {hs : List aS} (h : ∀ i, 23 ≤ i → i ≤ 104 → x' i = x i) (hh : xH x n hs nx) : xH x' n hs nx := by
  obtain ⟨h1, h2, h3, h4, h5⟩ := hh
  refine ⟨by rw [h 23 (by omega) (by omega)]; exact h1, by rw [h 23 (by omega) (by omega)]; exact h2, h3, h4, fun k S hk => ?_⟩
  exact xS_f (fun i g1 g2 => h i (by omega) (by omega)) (h5 k S hk)
theorem xI_f {x x' : jM} {n : Nat} {im : Nat → Option (aS × Nat)} (h : ∀ i, 105 ≤ i → i ≤ 115 → x' i = x i) (hh : xI x n im) : xI x' n im := by
  intro i hi
  obtain ⟨h1, h2⟩ := hh i hi
  have e := h (106 + 5 * i) (by omega) (by omega)
  refine ⟨fun g => by rw [e]; exact h1 g, fun S s g => ?_⟩
  obtain ⟨g1, g2, g3⟩ := h2 S s g
  exact ⟨by rw [e]; exact g1, xS_f (fun i g1 g2 => h i (by omega) (by omega)) g2, by rw [e]; exact g3⟩
theorem xN_f {x x' : jM} {u : aN} {v : aB} (h : ∀ i, 116 ≤ i → i ≤ 119 → x' i = x i) (hh : xN x u v) : xN x' u v := by
  obtain ⟨h1, h2, h3, h4, h5⟩ := hh
  have e1 := h 116 (by omega) (by omega)
  have e2 := h 117 (by omega) (by omega)
  have e3 := h 118 (by omega) (by omega)
  have e4 := h 119 (by omega) (by omega)
  exact ⟨by rw [e1]; exact h1, fun k hk => by rw [e2]; exact h2 k hk, by rw [e1]; exact h3, fun k hk => by rw [e3]; exact h4 k hk, fun k hk => by rw [e4]; exact h5 k hk⟩
/-- what isn't part of the state may change: the reader's own cells, the tried state, the groups -/
theorem RX_f {x x' : jM} {z : aX} (h : ∀ i, i < 121 → (i < 1 ∨ i = 2 ∨ (10 < i ∧ i < 19) ∨ (22 < i ∧ i < 120)) → x' i = x i) (h1 : x' 1 1 = x 1 1) (hh : RX z x) : RX z x' := by
  obtain ⟨r1, r2, ⟨nx, r3⟩, r4, r5, r6, r7, r8⟩ := hh
  refine ⟨xC_f (fun i g1 g2 => h i (by omega) (by omega)) r1, xS_f (fun i g1 g2 => h i (by omega) (by omega)) r2, ⟨nx, xH_f (fun i g1 g2 => h i (by omega) (by omega)) r3⟩, xI_f (fun i g1 g2 => h i (by omega) (by omega)) r4, xN_f (fun i g1 g2 => h i (by omega) (by omega)) r5, ?_, ?_, ?_⟩
  · rw [h 0 (by omega) (by omega)]; exact r6
  · rw [h 0 (by omega) (by omega)]; exact r7
  · exact ⟨by rw [h1]; exact r8.1, fun k hk => by rw [h 2 (by omega) (by omega)]; exact r8.2 k hk⟩
/-! what is done -/
def zPush (z : aX) : aX := (gC z, gS z, (gS z :: gH z).take 20, gI z, gN z, gB z, gD z, gF z, gT z)
def zNow (z : aX) (S : aS) : aX := (gC z, S, gH z, gI z, gN z, gB z, gD z, gF z, gT z)
def sAge (C : aC) (S : aS) (m : Nat) : aS := (fun k => ya (cDr C k) (cG C) (sY S) (sH S k) m, sP S, sM S, sN S, sY S + m)
def upN (f : Nat → Nat) (k v : Nat) : Nat → Nat := fun j => if j = k then v else f j
section CH
variable {d n : Nat} {x : jM} {Q : Option Value → jM → Prop} {S : aS} {hs : List aS}
theorem jar_st {o : Nat} (h : stI o) {r : List Value} (hc : jcs r = true) {b : Bool} (hb : b = true) : (jar 136 jK o (5 : Int).toNat && jcs r && b) = true := by
  have : o < 136 := by have := h.1; omega
  rw [hc, hb]
  simp [jar, h.2.1, this]
theorem c_push {nx : Nat} (hn : n ≤ 8) (hH : xH x n hs nx) (hS : xS x 15 n S) (ws : wS n S) (h : ∀ x', (∀ i, i < 23 ∨ 104 < i → x' i = x i) → (∃ nx', xH x' n ((S :: hs).take 20) nx') → Q none x') : jo (d + 2) 2 [.ref 23, .ref 15] x Q := by
  obtain ⟨h1, h2, h3, h4, h5⟩ := hH
  have hst := stI_h h3
  have hX := xS_cp (x := x) (o := 25 + 4 * nx) (s := 15) (n := n) (Or.inr (by omega)) hn ws.2.1 hS
  have fr : ∀ k, k < 25 + 4 * nx ∨ 25 + 4 * nx + 3 < k → cpS x (25 + 4 * nx) 15 k = x k := fun k hk => cpS_f hk
  refine jo_i rfl rfl (Nat.le_of_ble_eq_true rfl) ?_
  iterate 4 refine jw_u rfl ?_
  refine jtop h2 ?_
  refine jw_u rfl ⟨vp_in_nI h3 (by decide), jrk_r (j := 25 + 4 * nx) (by show 27 + 4 * (nI nx).toNatClampNeg = _; rw [nI_clamp (by omega)]; omega) ?_⟩
  refine jw_u rfl ?_
  refine jw_u rfl (jB_i (jar_st hst rfl rfl) ?_)
  refine c_takeS hst stI_15 ?_
  generalize cpS x (25 + 4 * nx) 15 = x1 at hX fr ⊢
  have e1 : x1 23 2 = nI nx := by rw [fr 23 (by omega)]; exact h2
  have e2 : x1 23 1 = nI hs.length := by rw [fr 23 (by omega)]; exact h1
  iterate 3 refine jw_u rfl ?_
  refine jtop e1 ?_
  iterate 2 refine jw_u rfl ?_
  refine jtop (nI_add _ _) ?_
  refine jw_u rfl ?_
  refine jw_u rfl ⟨by decide, ?_⟩
  refine jtop (pk_rem (a := nx + 1) (d := 20) (by omega) (by decide) (by decide)) ?_
  refine jw_u rfl ⟨fun h => (by cases h), ?_⟩
  iterate 3 refine jw_u rfl ?_
  refine jtop (v' := nI hs.length) (by rw [ju_k (by decide)]; exact e2) ?_
  iterate 2 refine jw_u rfl ?_
  refine jtop (nI_add hs.length 1) ?_
  iterate 2 refine jw_u rfl ?_
  refine jtop (mn_nI (b := 20) (by omega) (by decide)) ?_
  refine jw_u rfl ⟨fun h => (by cases h), ?_⟩
  refine jw_u rfl ?_
  refine h _ (fun i hi => ?_) ⟨(nx + 1) % 20, ?_, ?_, by omega, ?_, fun k S' hk => ?_⟩
  · rw [ju_oo (by omega), ju_oo (by omega)]
    exact fr i (by omega)
  · rw [ju_s, List.length_take, List.length_cons, Nat.min_comm]
  · rw [ju_k (by decide), ju_s]
  · rw [List.length_take]
    omega
  · have hk20 : k < 20 := by
      have := (List.getElem?_eq_some_iff.mp hk).1
      rw [List.length_take] at this
      omega
    rw [List.getElem?_take, if_pos hk20] at hk
    have fz : ∀ i, 25 ≤ i → ju (ju x1 23 2 (nI ((nx + 1) % 20))) 23 1 (nI (min (hs.length + 1) 20)) i = x1 i := fun i hi => by rw [ju_oo (by omega), ju_oo (by omega)]
    refine xS_f (x := x1) (fun i g1 g2 => fz i (by omega)) ?_
    match k, hk with
    | 0, hk =>
      cases hk
      rw [show ((nx + 1) % 20 + 19 - 0) % 20 = nx by omega]
      exact hX
    | k + 1, hk =>
      have hk : hs[k]? = some S' := by simpa using hk
      rw [show ((nx + 1) % 20 + 19 - (k + 1)) % 20 = (nx + 19 - k) % 20 by omega]
      exact xS_f (fun i g1 g2 => fr i (by omega)) (h5 k S' hk)
theorem c_popInto {nx : Nat} (hn : n ≤ 8) (hH : xH x n (S :: hs) nx) (ws : wS n S) (h : ∀ x', (∀ i, i < 15 ∨ (18 < i ∧ i ≠ 23) → x' i = x i) → xS x' 15 n S → (∃ nx', xH x' n hs nx') → Q none x') : jo (d + 2) 3 [.ref 23, .ref 15] x Q := by
  obtain ⟨h1, h2, h3, h4, h5⟩ := hH
  rw [List.length_cons] at h1 h4
  have e0 := h5 0 S rfl
  refine jo_i rfl rfl (Nat.le_of_ble_eq_true rfl) ?_
  iterate 2 refine jw_u rfl ?_
  refine jtop h1 ?_
  refine jw_u rfl ⟨fun _ => ?_, fun (c' : ¬ (0 : Int32) < nI (hs.length + 1)) => absurd (nI_lt (a := 0) (by omega) (by omega)) c'⟩
  iterate 3 refine jw_u rfl ?_
  refine jtop h2 ?_
  iterate 2 refine jw_u rfl ?_
  refine jtop (nI_add nx 20) ?_
  iterate 2 refine jw_u rfl ?_
  refine jtop (pk_sub (a := nx + 20) (b := 1) (by omega)) ?_
  refine jw_u rfl ?_
  refine jw_u rfl ⟨by decide, ?_⟩
  refine jtop (v' := nI ((nx + 19) % 20)) (by show nI (nx + 20 - 1) - nI (nx + 20 - 1) / nI 20 * nI 20 = _; rw [pk_rem (by omega) (by decide) (by decide)]; rfl) ?_
  refine jw_u rfl ⟨fun h => (by cases h), ?_⟩
  iterate 3 refine jw_u rfl ?_
  refine jtop (v' := nI (hs.length + 1)) (by rw [ju_k (by decide)]; exact h1) ?_
  iterate 2 refine jw_u rfl ?_
  refine jtop (s1a _) ?_
  refine jw_u rfl ⟨fun h => (by cases h), ?_⟩
  iterate 5 refine jw_u rfl ?_
  refine jtop (v' := nI ((nx + 19) % 20)) (by rw [ju_k (by decide), ju_s]) ?_
  have hm : (nx + 19) % 20 < 20 := by omega
  refine jw_u rfl ⟨vp_in_nI hm (by decide), jrk_r (j := 25 + 4 * ((nx + 19) % 20)) (by show 27 + 4 * (nI ((nx + 19) % 20)).toNatClampNeg = _; rw [nI_clamp (by omega)]; omega) ?_⟩
  refine jw_u rfl ?_
  generalize hx1 : ju (ju x 23 2 (nI ((nx + 19) % 20))) 23 1 (nI hs.length) = x1
  have fr : ∀ i, i ≠ 23 → x1 i = x i := fun i hi => by rw [← hx1, ju_oo hi, ju_oo hi]
  refine c_takeS stI_15 (stI_h hm) ?_
  have e1 : xS x1 (25 + 4 * ((nx + 19) % 20)) n S := xS_f (fun i g1 g2 => fr i (by omega)) e0
  have hX := xS_cp (x := x1) (o := 15) (s := 25 + 4 * ((nx + 19) % 20)) (n := n) (Or.inl (by omega)) hn ws.2.1 e1
  have fr2 : ∀ i, i < 15 ∨ 18 < i → cpS x1 15 (25 + 4 * ((nx + 19) % 20)) i = x1 i := fun i hi => cpS_f (by omega)
  refine jw_u rfl ?_
  refine h _ (fun i hi => (fr2 i (by omega)).trans (fr i (by omega))) hX ⟨(nx + 19) % 20, ?_, ?_, hm, by omega, fun k S' hk => ?_⟩
  · rw [fr2 23 (by omega), ← hx1, ju_s]
  · rw [fr2 23 (by omega), ← hx1, ju_k (by decide), ju_s]
  · have hl := (List.getElem?_eq_some_iff.mp hk).1
    have := h5 (k + 1) S' (by simpa using hk)
    rw [show ((nx + 19) % 20 + 19 - k) % 20 = (nx + 19 - (k + 1)) % 20 by omega]
    exact xS_f (fun i g1 g2 => (fr2 i (by omega)).trans (fr i (by omega))) this
theorem c_forget (h : Q none (ju x 23 1 (nI 0))) : jo (d + 1) 4 [.ref 23] x Q := by
  refine jo_i rfl rfl (Nat.le_of_ble_eq_true rfl) ?_
  iterate 2 refine jw_u rfl ?_
  refine jw_u rfl ⟨fun h => (by cases h), ?_⟩
  refine jw_u rfl ?_
  exact h
theorem c_clearAll (h : Q none (ju (ju x 116 0 (nI 0)) 116 2 (nI 0))) : jo (d + 1) 7 [.ref 116] x Q := by
  refine jo_i rfl rfl (Nat.le_of_ble_eq_true rfl) ?_
  iterate 2 refine jw_u rfl ?_
  refine jw_u rfl ⟨fun h => (by cases h), ?_⟩
  iterate 2 refine jw_u rfl ?_
  refine jw_u rfl ⟨fun h => (by cases h), ?_⟩
  refine jw_u rfl ?_
  exact h
end CH
end
section
/-! THE CLASS: what is done -/
theorem RX_h {x x' : jM} {z : aX} {hs : List aS} (h : ∀ i, i < 23 ∨ 104 < i → x' i = x i) (hh : ∃ nx, xH x' (cN (gC z)) hs nx) (hx : RX z x) : RX (gC z, gS z, hs, gI z, gN z, gB z, gD z, gF z, gT z) x' := by
  obtain ⟨r1, r2, -, r4, r5, r6, r7, r8⟩ := hx
  refine ⟨xC_f (fun i g1 g2 => h i (by omega)) r1, xS_f (fun i g1 g2 => h i (by omega)) r2, hh, xI_f (fun i g1 g2 => h i (by omega)) r4, xN_f (fun i g1 g2 => h i (by omega)) r5, ?_, ?_, ?_⟩
  · rw [h 0 (by omega)]; exact r6
  · rw [h 0 (by omega)]; exact r7
  · exact ⟨by rw [h 1 (by omega)]; exact r8.1, fun k hk => by rw [h 2 (by omega)]; exact r8.2 k hk⟩
theorem RX_n {x x' : jM} {z : aX} {S : aS} (h : ∀ i, i < 15 ∨ 18 < i → x' i = x i) (hS : xS x' 15 (cN (gC z)) S) (hx : RX z x) : RX (zNow z S) x' := by
  obtain ⟨r1, -, ⟨nx, r3⟩, r4, r5, r6, r7, r8⟩ := hx
  refine ⟨xC_f (fun i g1 g2 => h i (by omega)) r1, hS, ⟨nx, xH_f (fun i g1 g2 => h i (by omega)) r3⟩, xI_f (fun i g1 g2 => h i (by omega)) r4, xN_f (fun i g1 g2 => h i (by omega)) r5, ?_, ?_, ?_⟩
  · rw [h 0 (by omega)]; exact r6
  · rw [h 0 (by omega)]; exact r7
  · exact ⟨by rw [h 1 (by omega)]; exact r8.1, fun k hk => by rw [h 2 (by omega)]; exact r8.2 k hk⟩
def fYear (z : aX) (m : Int32) : Int32 × aX :=
  if nI 1 ≤ m ∧ m ≤ nI 60 then (if cT (gC z) = 1 then (if sY (gS z) ≤ 9000 then (nI (sY (gS z) + m.toNatClampNeg), zNow (zPush z) (sAge (gC z) (gS z) m.toNatClampNeg)) else (kF, z)) else (kX, z)) else (kO, z)
def fTeach (z : aX) (p m : Int32) : Int32 × aX :=
  if 0 ≤ p ∧ p < nI (cN (gC z)) then (if 0 ≤ m ∧ m < nI 1000 then (nI (ap (sH (gS z) p.toNatClampNeg) m.toNatClampNeg), zNow (zPush z) (upN (sH (gS z)) p.toNatClampNeg m.toNatClampNeg, sP (gS z), sM (gS z), sN (gS z), sY (gS z))) else (kO, z)) else (kU, z)
def fSign (z : aX) (p m : Int32) : Int32 × aX :=
  if 0 ≤ p ∧ p < nI (cN (gC z)) then (if 0 ≤ m ∧ m < nI 1000 then (if sP (gS z) < 8 then (nI (sP (gS z) + 1), zNow (zPush z) (sH (gS z), sP (gS z) + 1, upN (sM (gS z)) (sP (gS z)) m.toNatClampNeg, upN (sN (gS z)) (sP (gS z)) p.toNatClampNeg, sY (gS z))) else (kF, z)) else (kO, z)) else (kU, z)
def fTearP (z : aX) : Int32 × aX :=
  if sP (gS z) = 0 then (kX, z) else (nI (sM (gS z) (sP (gS z) - 1)), zNow (zPush z) (sH (gS z), sP (gS z) - 1, sM (gS z), sN (gS z), sY (gS z)))
def fUndo (z : aX) : Int32 × aX := match gH z with
  | [] => (kX, z)
  | S :: hs => (nI hs.length, (gC z, S, hs, gI z, gN z, gB z, gD z, gF z, gT z))
def fSee (z : aX) (m : Int32) : Int32 × aX :=
  if 0 ≤ m ∧ m < nI 1000 then (if (gN z).1 < 8 then (nI ((gN z).1 + 1), (gC z, gS z, gH z, gI z, ((gN z).1 + 1, upN (gN z).2 (gN z).1 m.toNatClampNeg), gB z, gD z, gF z, gT z)) else (kF, z)) else (kO, z)
def fWrite (z : aX) (p m : Int32) : Int32 × aX :=
  if 0 ≤ p ∧ p < nI (cN (gC z)) then (if 0 ≤ m ∧ m < nI 1000 then (if (gB z).1 < 15 then (nI ((gB z).1 + 1), (gC z, gS z, gH z, gI z, gN z, ((gB z).1 + 1, upN (gB z).2.1 (gB z).1 p.toNatClampNeg, upN (gB z).2.2 (gB z).1 m.toNatClampNeg), gD z, gF z, gT z)) else (kF, z)) else (kO, z)) else (kU, z)
def fTear (z : aX) : Int32 × aX := (nI ((gN z).1 + (gB z).1), (gC z, gS z, gH z, gI z, (0, (gN z).2), (0, (gB z).2), gD z, gF z, gT z))
def fSeed (z : aX) (v : Int32) : Int32 × aX := if 0 ≤ v then (nI (gD z), (gC z, gS z, gH z, gI z, gN z, gB z, v.toNatClampNeg, gF z, gT z)) else (kO, z)
def fKeep (z : aX) (i : Int32) : Int32 × aX := if 0 ≤ i ∧ i < nI 2 then (nI 1, (gC z, gS z, [], (fun k => if k = i.toNatClampNeg then some (gS z, gD z) else gI z k), gN z, gB z, gD z, gF z, gT z)) else (kU, z)
def fBack (z : aX) (i : Int32) : Int32 × aX := if 0 ≤ i ∧ i < nI 2 then (match gI z i.toNatClampNeg with
    | none => (kX, z)
    | some (S, s) => (nI 1, (gC z, S, [], gI z, gN z, gB z, s, gF z, gT z))) else (kU, z)
def fFeed (z : aX) (v : Int32) : Int32 × aX := if 0 ≤ v ∧ v < nI 256 then (if (gT z).1 < 240 then (nI ((gT z).1 + 1), (gC z, gS z, gH z, gI z, gN z, gB z, gD z, gF z, ((gT z).1 + 1, upN (gT z).2 (gT z).1 v.toNatClampNeg))) else (kF, z)) else (kO, z)
theorem upN_s (f : Nat → Nat) (k v : Nat) : upN f k v k = v := by simp [upN]
theorem upN_o {f : Nat → Nat} {k v j : Nat} (h : j ≠ k) : upN f k v j = f j := by simp [upN, h]
theorem ge0 {v : Int32} (h : 0 ≤ v) : ∃ j : Nat, j < 2 ^ 31 ∧ v = nI j := nI_of (by simpa using h)
theorem c_addPaper {d o k : Nat} {x : jM} {Q : Option Value → jM → Prop} {p m : Int32} (ho : o = 15 ∨ o = 7) (e : x o 1 = nI k) (hk : k < 8) (h : Q none (ju (ju (ju x (o + 3) k p) (o + 2) k m) o 1 (nI (k + 1)))) : jo (d + 1) 22 [.ref o, .int p, .int m] x Q := by
  rcases ho with rfl | rfl <;>
  · refine jo_i rfl rfl (Nat.le_of_ble_eq_true rfl) ?_
    iterate 2 refine jw_u rfl ?_
    refine jtop e ?_
    refine jw_u rfl ?_
    refine jw_u rfl ⟨fun _ => ?_, fun (c3 : ¬ nI k < nI 8) => absurd (nI_lt hk (by decide)) c3⟩
    iterate 4 refine jw_u rfl ?_
    refine jtop e ?_
    refine jw_u rfl ?_
    refine jw_u rfl (jsN (show k < 8 by omega) (by decide) ?_)
    iterate 4 refine jw_u rfl ?_
    refine jtop (v' := nI k) (by rw [ju_o (by decide)]; exact e) ?_
    refine jw_u rfl ?_
    refine jw_u rfl (jsN (show k < 8 by omega) (by decide) ?_)
    iterate 3 refine jw_u rfl ?_
    refine jtop (v' := nI k) (by rw [ju_o (by decide), ju_o (by decide)]; exact e) ?_
    iterate 2 refine jw_u rfl ?_
    refine jtop (nI_add k 1) ?_
    refine jw_u rfl ⟨fun h => (by cases h), ?_⟩
    refine jw_u rfl ?_
    exact h
section CD
variable {d : Nat} {x : jM} {Q : Option Value → jM → Prop} {z : aX}
theorem C_year {m : Int32} (hx : RX z x) (hw : wX z) (h : ∀ x', RX (fYear z m).2 x' → (∀ i, 121 ≤ i → x' i = x i) → Q (some (.int (fYear z m).1)) x') : jo (d + 4) 31 [.ref 0, .int m] x Q := by
  obtain ⟨r1, r2, ⟨nx, r3⟩, r4, r5, r6, r7, r8⟩ := id hx
  obtain ⟨w1, w2, -⟩ := id hw
  have b3 := w1.2.2.1
  refine jo_i rfl rfl (Nat.le_of_ble_eq_true rfl) ?_
  iterate 2 refine jw_u rfl ?_
  have out : ¬ (nI 1 ≤ m ∧ m ≤ nI 60) → jw (d + 3) kX6_year Q 6 [some (.ref 0), some (.int m)] [] x := by
    intro hm
    rw [show fYear z m = (kO, z) by unfold fYear; rw [if_neg hm]] at h
    iterate 2 refine jw_u rfl ?_
    exact ⟨fun h => (by cases h), h x hx (fun _ _ => rfl)⟩
  refine jw_u rfl ⟨fun (c : m < nI 1) => out (fun hc => absurd hc.1 (by simpa using c)), fun (c : ¬ m < nI 1) => ?_⟩
  iterate 2 refine jw_u rfl ?_
  refine jw_u rfl ⟨fun (c' : m ≤ nI 60) => ?_, fun (c' : ¬ m ≤ nI 60) => out (fun hc => c' hc.2)⟩
  have hm : nI 1 ≤ m ∧ m ≤ nI 60 := ⟨by simpa using c, c'⟩
  obtain ⟨j, hj, rfl⟩ := nI_of2 (n := 60) (M := nI 60) (by decide) (fun hc => c (Int32.lt_trans hc (by decide))) c'
  iterate 2 refine jw_u rfl ?_
  refine jw_u rfl ?_
  refine jtop r1.1 ?_
  refine jw_u rfl ⟨fun (c1 : ¬ nI (cT (gC z)) = 0) => ?_, fun (c1 : nI (cT (gC z)) = 0) => ?_⟩
  rotate_left
  · rw [show fYear z (nI j) = (kX, z) by unfold fYear; rw [if_pos hm, if_neg (fun e => by rw [e] at c1; exact n10 c1)]] at h
    iterate 2 refine jw_u rfl ?_
    exact ⟨fun h => (by cases h), h x hx (fun _ _ => rfl)⟩
  have hT : cT (gC z) = 1 := by
    have := w1.1
    rcases (show cT (gC z) = 0 ∨ cT (gC z) = 1 by omega) with e | e
    · rw [e] at c1
      exact absurd n00 c1
    · exact e
  have by_ := w2.2.2.2.2
  iterate 3 refine jw_u rfl ?_
  refine jtop r2.2.2.2.2 ?_
  refine jw_u rfl ?_
  refine jw_u rfl ⟨fun (c2 : nI (sY (gS z)) ≤ nI 9000) => ?_, fun (c2 : ¬ nI (sY (gS z)) ≤ nI 9000) => ?_⟩
  rotate_left
  · rw [nI_leI (by omega) (by decide)] at c2
    rw [show fYear z (nI j) = (kF, z) by unfold fYear; rw [if_pos hm, if_pos hT, if_neg c2]] at h
    iterate 2 refine jw_u rfl ?_
    exact ⟨fun h => (by cases h), h x hx (fun _ _ => rfl)⟩
  rw [nI_leI (by omega) (by decide)] at c2
  rw [show fYear z (nI j) = (nI (sY (gS z) + j), zNow (zPush z) (sAge (gC z) (gS z) j)) by unfold fYear; rw [if_pos hm, if_pos hT, if_pos c2, nI_clamp (by omega)]] at h
  iterate 5 refine jw_u rfl ?_
  refine c_push b3 r3 r2 w2 (fun x1 f1 f2 => ?_)
  have hx1 : RX (zPush z) x1 := RX_h f1 f2 hx
  have q1 := hx1.1
  have q2 := hx1.2.1
  iterate 5 refine jw_u rfl ?_
  refine c_passYears (o := 15) (y := sY (gS z)) (hd := sH (gS z)) (dr := cDr (gC z)) (Or.inl rfl) (by omega) (by omega) q1.2.2.1 b3 q1.2.1 w1.2.1 q1.2.2.2.2.2.1 w1.2.2.2.2.2.1 q2.1 w2.1 q2.2.2.2.2 (fun x2 y1 y2 y3 y4 => ?_)
  iterate 3 refine jw_u rfl ?_
  refine jtop y3 ?_
  refine jw_u rfl ?_
  refine ⟨fun h => (by cases h), h x2 ?_ (fun i hi => by rw [y1 i (by omega) (by omega), f1 i (by omega)])⟩
  refine RX_n (z := zPush z) (fun i hi => y1 i (by omega) (by omega)) ⟨y4, ?_, fun k hk => ?_, fun k hk => ?_, y3⟩ hx1
  · rw [y2 1 (by decide)]; exact q2.2.1
  · rw [y1 17 (by decide) (by decide)]; exact q2.2.2.1 k hk
  · rw [y1 18 (by decide) (by decide)]; exact q2.2.2.2.1 k hk
theorem C_teach {p m : Int32} (hx : RX z x) (hw : wX z) (h : ∀ x', RX (fTeach z p m).2 x' → (∀ i, 121 ≤ i → x' i = x i) → Q (some (.int (fTeach z p m).1)) x') : jo (d + 3) 32 [.ref 0, .int p, .int m] x Q := by
  obtain ⟨r1, r2, ⟨nx, r3⟩, r4, r5, r6, r7, r8⟩ := id hx
  obtain ⟨w1, w2, -⟩ := id hw
  have b3 := w1.2.2.1
  refine jo_i rfl rfl (Nat.le_of_ble_eq_true rfl) ?_
  iterate 3 refine jw_u rfl ?_
  refine c_isPerson r1.2.2.1 (fun hp => ?_) (fun hp => ?_)
  rotate_left
  · refine jw_u rfl ⟨fun c => absurd n00 c, fun _ => ?_⟩
    rw [show fTeach z p m = (kU, z) by unfold fTeach; rw [if_neg hp]] at h
    iterate 2 refine jw_u rfl ?_
    exact ⟨fun h => (by cases h), h x hx (fun _ _ => rfl)⟩
  refine jw_u rfl ⟨fun _ => ?_, fun c => absurd c n10⟩
  iterate 2 refine jw_u rfl ?_
  refine c_isMark (fun hm => ?_) (fun hm => ?_)
  rotate_left
  · refine jw_u rfl ⟨fun c => absurd n00 c, fun _ => ?_⟩
    rw [show fTeach z p m = (kO, z) by unfold fTeach; rw [if_pos hp, if_neg hm]] at h
    iterate 2 refine jw_u rfl ?_
    exact ⟨fun h => (by cases h), h x hx (fun _ _ => rfl)⟩
  refine jw_u rfl ⟨fun _ => ?_, fun c => absurd c n10⟩
  have hpm := And.intro hp hm
  obtain ⟨j, hj, rfl⟩ := ilt (by omega) hp
  obtain ⟨a, ha, rfl⟩ := ilt (by decide) hm
  rw [show fTeach z (nI j) (nI a) = (nI (ap (sH (gS z) j) a), zNow (zPush z) (upN (sH (gS z)) j a, sP (gS z), sM (gS z), sN (gS z), sY (gS z))) by unfold fTeach; rw [if_pos hpm.1, if_pos hpm.2, nI_clamp (by omega), nI_clamp (by omega)]] at h
  iterate 5 refine jw_u rfl ?_
  refine c_push b3 r3 r2 w2 (fun x1 f1 f2 => ?_)
  have hx1 : RX (zPush z) x1 := RX_h f1 f2 hx
  have q2 := hx1.2.1
  iterate 4 refine jw_u rfl ?_
  refine jw_u rfl (jaN (show j < 8 by omega) (by decide) (q2.1 j hj) ?_)
  iterate 2 refine jw_u rfl ?_
  refine c_apart (w2.1 j hj) ha ?_
  iterate 6 refine jw_u rfl ?_
  refine jw_u rfl (jsN (show j < 8 by omega) (by decide) ?_)
  iterate 2 refine jw_u rfl ?_
  refine ⟨fun h => (by cases h), h (ju x1 16 j (nI a)) ?_ (fun i hi => by rw [ju_oo (by omega), f1 i (by omega)])⟩
  refine RX_n (z := zPush z) (fun i hi => ju_oo (by omega)) ⟨fun k hk => ?_, ?_, fun k hk => ?_, fun k hk => ?_, ?_⟩ hx1
  · by_cases e : k = j
    · subst e
      show ju x1 16 k (nI a) 16 k = nI (upN (sH (gS z)) k a k)
      rw [ju_s, upN_s]
    · show ju x1 16 j (nI a) 16 k = nI (upN (sH (gS z)) j a k)
      rw [ju_k e, upN_o e]
      exact q2.1 k hk
  · rw [ju_o (by decide)]; exact q2.2.1
  · rw [ju_o (by decide)]; exact q2.2.2.1 k hk
  · rw [ju_o (by decide)]; exact q2.2.2.2.1 k hk
  · rw [ju_o (by decide)]; exact q2.2.2.2.2
theorem C_sign {p m : Int32} (hx : RX z x) (hw : wX z) (h : ∀ x', RX (fSign z p m).2 x' → (∀ i, 121 ≤ i → x' i = x i) → Q (some (.int (fSign z p m).1)) x') : jo (d + 3) 33 [.ref 0, .int p, .int m] x Q := by
  obtain ⟨r1, r2, ⟨nx, r3⟩, r4, r5, r6, r7, r8⟩ := id hx
  obtain ⟨w1, w2, -⟩ := id hw
  have b3 := w1.2.2.1
  refine jo_i rfl rfl (Nat.le_of_ble_eq_true rfl) ?_
  iterate 3 refine jw_u rfl ?_
  refine c_isPerson r1.2.2.1 (fun hp => ?_) (fun hp => ?_)
  rotate_left
  · refine jw_u rfl ⟨fun c => absurd n00 c, fun _ => ?_⟩
    rw [show fSign z p m = (kU, z) by unfold fSign; rw [if_neg hp]] at h
    iterate 2 refine jw_u rfl ?_
    exact ⟨fun h => (by cases h), h x hx (fun _ _ => rfl)⟩
  refine jw_u rfl ⟨fun _ => ?_, fun c => absurd c n10⟩
  iterate 2 refine jw_u rfl ?_
  refine c_isMark (fun hm => ?_) (fun hm => ?_)
  rotate_left
  · refine jw_u rfl ⟨fun c => absurd n00 c, fun _ => ?_⟩
    rw [show fSign z p m = (kO, z) by unfold fSign; rw [if_pos hp, if_neg hm]] at h
    iterate 2 refine jw_u rfl ?_
    exact ⟨fun h => (by cases h), h x hx (fun _ _ => rfl)⟩
  refine jw_u rfl ⟨fun _ => ?_, fun c => absurd c n10⟩
  have hpm := And.intro hp hm
  obtain ⟨j, hj, rfl⟩ := ilt (by omega) hp
  obtain ⟨a, ha, rfl⟩ := ilt (by decide) hm
  have bp := w2.2.1
  iterate 3 refine jw_u rfl ?_
  refine jtop r2.2.1 ?_
  refine jw_u rfl ?_
  refine jw_u rfl ⟨fun (c2 : nI (sP (gS z)) < nI 8) => ?_, fun (c2 : ¬ nI (sP (gS z)) < nI 8) => ?_⟩
  rotate_left
  · rw [nI_ltI (by omega) (by decide)] at c2
    rw [show fSign z (nI j) (nI a) = (kF, z) by unfold fSign; rw [if_pos hpm.1, if_pos hpm.2, if_neg c2]] at h
    iterate 2 refine jw_u rfl ?_
    exact ⟨fun h => (by cases h), h x hx (fun _ _ => rfl)⟩
  rw [nI_ltI (by omega) (by decide)] at c2
  rw [show fSign z (nI j) (nI a) = (nI (sP (gS z) + 1), zNow (zPush z) (sH (gS z), sP (gS z) + 1, upN (sM (gS z)) (sP (gS z)) a, upN (sN (gS z)) (sP (gS z)) j, sY (gS z))) by unfold fSign; rw [if_pos hpm.1, if_pos hpm.2, if_pos c2, nI_clamp (by omega), nI_clamp (by omega)]] at h
  iterate 5 refine jw_u rfl ?_
  refine c_push b3 r3 r2 w2 (fun x1 f1 f2 => ?_)
  have hx1 : RX (zPush z) x1 := RX_h f1 f2 hx
  have q2 := hx1.2.1
  have q21 : x1 15 1 = nI (sP (gS z)) := q2.2.1
  iterate 5 refine jw_u rfl ?_
  refine c_addPaper (o := 15) (Or.inl rfl) q21 c2 ?_
  iterate 3 refine jw_u rfl ?_
  refine jtop (ju_s _ _ _ _) ?_
  refine jw_u rfl ?_
  refine ⟨fun h => (by cases h), h (ju (ju (ju x1 18 (sP (gS z)) (nI j)) 17 (sP (gS z)) (nI a)) 15 1 (nI (sP (gS z) + 1))) ?_ (fun i hi => by rw [ju_oo (by omega), ju_oo (by omega), ju_oo (by omega), f1 i (by omega)])⟩
  refine RX_n (z := zPush z) (fun i hi => by rw [ju_oo (by omega), ju_oo (by omega), ju_oo (by omega)]) ⟨fun k hk => ?_, ?_, fun k hk => ?_, fun k hk => ?_, ?_⟩ hx1
  · rw [ju_o (by decide), ju_o (by decide), ju_o (by decide)]; exact q2.1 k hk
  · exact ju_s _ _ _ _
  · rw [ju_o (by decide)]
    by_cases e : k = sP (gS z)
    · subst e
      show ju (ju x1 18 (sP (gS z)) (nI j)) 17 (sP (gS z)) (nI a) 17 (sP (gS z)) = nI (upN (sM (gS z)) (sP (gS z)) a (sP (gS z)))
      rw [ju_s, upN_s]
    · show ju (ju x1 18 (sP (gS z)) (nI j)) 17 (sP (gS z)) (nI a) 17 k = nI (upN (sM (gS z)) (sP (gS z)) a k)
      rw [ju_k e, ju_o (by decide), upN_o e]
      exact q2.2.2.1 k (by have hk : k < sP (gS z) + 1 := hk; show k < sP (gS z); omega)
  · rw [ju_o (by decide), ju_o (by decide)]
    by_cases e : k = sP (gS z)
    · subst e
      show ju x1 18 (sP (gS z)) (nI j) 18 (sP (gS z)) = nI (upN (sN (gS z)) (sP (gS z)) j (sP (gS z)))
      rw [ju_s, upN_s]
    · show ju x1 18 (sP (gS z)) (nI j) 18 k = nI (upN (sN (gS z)) (sP (gS z)) j k)
      rw [ju_k e, upN_o e]
      exact q2.2.2.2.1 k (by have hk : k < sP (gS z) + 1 := hk; show k < sP (gS z); omega)
  · rw [ju_k (by decide), ju_o (by decide), ju_o (by decide)]; exact q2.2.2.2.2
theorem C_tearPaper (hx : RX z x) (hw : wX z) (h : ∀ x', RX (fTearP z).2 x' → (∀ i, 121 ≤ i → x' i = x i) → Q (some (.int (fTearP z).1)) x') : jo (d + 3) 34 [.ref 0] x Q := by
  obtain ⟨r1, r2, ⟨nx, r3⟩, r4, r5, r6, r7, r8⟩ := id hx
  obtain ⟨w1, w2, -⟩ := id hw
  have b3 := w1.2.2.1
  have bp := w2.2.1
  refine jo_i rfl rfl (Nat.le_of_ble_eq_true rfl) ?_
  iterate 3 refine jw_u rfl ?_
  refine jtop r2.2.1 ?_
  iterate 6 refine jw_u rfl ?_
  refine c_isPaper r2.2.1 (fun hp => ?_) (fun hp => ?_)
  rotate_left
  · have e0 : sP (gS z) = 0 := by
      rcases Nat.eq_zero_or_pos (sP (gS z)) with e | e
      · exact e
      · have hp : ¬ (0 ≤ nI (sP (gS z)) - nI 1 ∧ nI (sP (gS z)) - nI 1 < nI (sP (gS z))) := hp
        rw [pk_sub (by omega)] at hp
        exact absurd (ilt2 (by omega) (by omega)) hp
    refine jw_u rfl ⟨fun c => absurd n00 c, fun _ => ?_⟩
    rw [show fTearP z = (kX, z) by unfold fTearP; rw [if_pos e0]] at h
    iterate 2 refine jw_u rfl ?_
    exact ⟨fun h => (by cases h), h x hx (fun _ _ => rfl)⟩
  have hp : 0 ≤ nI (sP (gS z)) - nI 1 ∧ nI (sP (gS z)) - nI 1 < nI (sP (gS z)) := hp
  have e0 : 1 ≤ sP (gS z) := by
    rcases Nat.eq_zero_or_pos (sP (gS z)) with e | e
    · rw [e] at hp
      exact absurd hp.1 (by decide)
    · exact e
  rw [show fTearP z = (nI (sM (gS z) (sP (gS z) - 1)), zNow (zPush z) (sH (gS z), sP (gS z) - 1, sM (gS z), sN (gS z), sY (gS z))) by unfold fTearP; rw [if_neg (by omega)]] at h
  refine jw_u rfl ⟨fun _ => ?_, fun c => absurd c n10⟩
  iterate 5 refine jw_u rfl ?_
  refine c_push b3 r3 r2 w2 (fun x1 f1 f2 => ?_)
  have hx1 : RX (zPush z) x1 := RX_h f1 f2 hx
  have q2 := hx1.2.1
  iterate 3 refine jw_u rfl ?_
  refine jtop (pk_sub (b := 1) e0) ?_
  refine jw_u rfl ⟨fun h => (by cases h), ?_⟩
  iterate 4 refine jw_u rfl ?_
  refine jtop (pk_sub (b := 1) e0) ?_
  refine jw_u rfl (jaN (v := nI (sM (gS z) (sP (gS z) - 1))) (show sP (gS z) - 1 < 8 by omega) (by decide) (by rw [ju_o (by decide)]; exact q2.2.2.1 _ (show sP (gS z) - 1 < sP (gS z) by omega)) ?_)
  refine jw_u rfl ?_
  refine ⟨fun h => (by cases h), h (ju x1 15 1 (nI (sP (gS z) - 1))) ?_ (fun i hi => by rw [ju_oo (by omega), f1 i (by omega)])⟩
  refine RX_n (z := zPush z) (fun i hi => ju_oo (by omega)) ⟨fun k hk => ?_, ju_s _ _ _ _, fun k hk => ?_, fun k hk => ?_, ?_⟩ hx1
  · rw [ju_o (by decide)]; exact q2.1 k hk
  · rw [ju_o (by decide)]; exact q2.2.2.1 k (by have hk : k < sP (gS z) - 1 := hk; show k < sP (gS z); omega)
  · rw [ju_o (by decide)]; exact q2.2.2.2.1 k (by have hk : k < sP (gS z) - 1 := hk; show k < sP (gS z); omega)
  · rw [ju_k (by decide)]; exact q2.2.2.2.2
theorem C_undo (hx : RX z x) (hw : wX z) (h : ∀ x', RX (fUndo z).2 x' → (∀ i, 121 ≤ i → x' i = x i) → Q (some (.int (fUndo z).1)) x') : jo (d + 3) 36 [.ref 0] x Q := by
  obtain ⟨r1, r2, ⟨nx, r3⟩, r4, r5, r6, r7, r8⟩ := id hx
  obtain ⟨w1, w2, w3, -⟩ := id hw
  have b3 := w1.2.2.1
  refine jo_i rfl rfl (Nat.le_of_ble_eq_true rfl) ?_
  iterate 3 refine jw_u rfl ?_
  cases hh : gH z with
  | nil =>
    rw [hh] at r3
    refine jtop r3.1 ?_
    rw [show fUndo z = (kX, z) by unfold fUndo; rw [hh]] at h
    refine jw_u rfl ⟨fun (c : (0 : Int32) < nI 0) => absurd c (by decide), fun _ => ?_⟩
    iterate 2 refine jw_u rfl ?_
    exact ⟨fun h => (by cases h), h x hx (fun _ _ => rfl)⟩
  | cons S hs =>
    rw [hh] at r3
    have r31 := r3.1
    have r34 := r3.2.2.2.1
    rw [List.length_cons] at r31 r34
    rw [hh] at w3
    refine jtop r31 ?_
    rw [show fUndo z = (nI hs.length, (gC z, S, hs, gI z, gN z, gB z, gD z, gF z, gT z)) by unfold fUndo; rw [hh]] at h
    refine jw_u rfl ⟨fun _ => ?_, fun (c : ¬ (0 : Int32) < nI (hs.length + 1)) => absurd (nI_lt (a := 0) (by omega) (by omega)) c⟩
    iterate 5 refine jw_u rfl ?_
    refine c_popInto b3 r3 (w3.2 S List.mem_cons_self) (fun x1 f1 f2 f3 => ?_)
    obtain ⟨nx', f3⟩ := f3
    iterate 3 refine jw_u rfl ?_
    refine jtop f3.1 ?_
    refine jw_u rfl ?_
    refine ⟨fun h => (by cases h), h x1 ?_ (fun i hi => f1 i (by omega))⟩
    refine ⟨xC_f (fun i g1 g2 => f1 i (by omega)) r1, f2, ⟨nx', f3⟩, xI_f (fun i g1 g2 => f1 i (by omega)) r4, xN_f (fun i g1 g2 => f1 i (by omega)) r5, ?_, ?_, ?_⟩
    · rw [f1 0 (by omega)]; exact r6
    · rw [f1 0 (by omega)]; exact r7
    · exact ⟨by rw [f1 1 (by omega)]; exact r8.1, fun k hk => by rw [f1 2 (by omega)]; exact r8.2 k hk⟩
theorem C_seed {v : Int32} (hx : RX z x) (h : ∀ x', RX (fSeed z v).2 x' → (∀ i, 121 ≤ i → x' i = x i) → Q (some (.int (fSeed z v).1)) x') : jo (d + 1) 58 [.ref 0, .int v] x Q := by
  obtain ⟨r1, r2, ⟨nx, r3⟩, r4, r5, r6, r7, r8⟩ := id hx
  refine jo_i rfl rfl (Nat.le_of_ble_eq_true rfl) ?_
  refine jw_u rfl ?_
  refine jw_u rfl ⟨fun (c : 0 ≤ v) => ?_, fun (c : ¬ 0 ≤ v) => ?_⟩
  · obtain ⟨j, hj, rfl⟩ := ge0 c
    rw [show fSeed z (nI j) = (nI (gD z), (gC z, gS z, gH z, gI z, gN z, gB z, j, gF z, gT z)) by unfold fSeed; rw [if_pos c, nI_clamp hj]] at h
    iterate 2 refine jw_u rfl ?_
    refine jtop r6 ?_
    iterate 3 refine jw_u rfl ?_
    refine jw_u rfl ⟨fun h => (by cases h), ?_⟩
    iterate 2 refine jw_u rfl ?_
    refine ⟨fun h => (by cases h), h (ju x 0 8 (nI j)) ?_ (fun i hi => ju_oo (by omega))⟩
    have fr : ∀ i, i ≠ 0 → ju x 0 8 (nI j) i = x i := fun i hi => ju_oo hi
    refine ⟨xC_f (fun i g1 g2 => fr i (by omega)) r1, xS_f (fun i g1 g2 => fr i (by omega)) r2, ⟨nx, xH_f (fun i g1 g2 => fr i (by omega)) r3⟩, xI_f (fun i g1 g2 => fr i (by omega)) r4, xN_f (fun i g1 g2 => fr i (by omega)) r5, ju_s _ _ _ _, ?_, ?_⟩
    · rw [ju_k (by decide)]; exact r7
    · exact ⟨by rw [fr 1 (by omega)]; exact r8.1, fun k hk => by rw [fr 2 (by omega)]; exact r8.2 k hk⟩
  · rw [show fSeed z v = (kO, z) by unfold fSeed; rw [if_neg c]] at h
    iterate 2 refine jw_u rfl ?_
    exact ⟨fun h => (by cases h), h x hx (fun _ _ => rfl)⟩
end CD
end
section
/-! THE CLASS: what is seen, the book, images, letters -/
section CE
variable {d : Nat} {x : jM} {Q : Option Value → jM → Prop} {z : aX}
theorem C_see {m : Int32} (hx : RX z x) (hw : wX z) (h : ∀ x', RX (fSee z m).2 x' → (∀ i, 121 ≤ i → x' i = x i) → Q (some (.int (fSee z m).1)) x') : jo (d + 2) 52 [.ref 0, .int m] x Q := by
  obtain ⟨r1, r2, ⟨nx, r3⟩, r4, r5, r6, r7, r8⟩ := id hx
  obtain ⟨w1, w2, w3, w4, w5, -⟩ := id hw
  have bp := w5.1
  refine jo_i rfl rfl (Nat.le_of_ble_eq_true rfl) ?_
  iterate 2 refine jw_u rfl ?_
  refine c_isMark (fun hm => ?_) (fun hm => ?_)
  rotate_left
  · refine jw_u rfl ⟨fun c => absurd n00 c, fun _ => ?_⟩
    rw [show fSee z m = (kO, z) by unfold fSee; rw [if_neg hm]] at h
    iterate 2 refine jw_u rfl ?_
    exact ⟨fun h => (by cases h), h x hx (fun _ _ => rfl)⟩
  refine jw_u rfl ⟨fun _ => ?_, fun c => absurd c n10⟩
  have hm2 := hm
  obtain ⟨a, ha, rfl⟩ := ilt (by decide) hm
  iterate 3 refine jw_u rfl ?_
  refine jtop r5.1 ?_
  refine jw_u rfl ?_
  refine jw_u rfl ⟨fun (c2 : nI (gN z).1 < nI 8) => ?_, fun (c2 : ¬ nI (gN z).1 < nI 8) => ?_⟩
  rotate_left
  · rw [nI_ltI (by omega) (by decide)] at c2
    rw [show fSee z (nI a) = (kF, z) by unfold fSee; rw [if_pos hm2, if_neg c2]] at h
    iterate 2 refine jw_u rfl ?_
    exact ⟨fun h => (by cases h), h x hx (fun _ _ => rfl)⟩
  rw [nI_ltI (by omega) (by decide)] at c2
  rw [show fSee z (nI a) = (nI ((gN z).1 + 1), (gC z, gS z, gH z, gI z, ((gN z).1 + 1, upN (gN z).2 (gN z).1 a), gB z, gD z, gF z, gT z)) by unfold fSee; rw [if_pos hm2, if_pos c2, nI_clamp (by omega)]] at h
  have call : jo (d + 1) 5 [.ref 116, .int (nI a)] x (fun rv x' => rv = none ∧ x' = ju (ju x 117 (gN z).1 (nI a)) 116 0 (nI ((gN z).1 + 1))) := by
    refine jo_i rfl rfl (Nat.le_of_ble_eq_true rfl) ?_
    iterate 2 refine jw_u rfl ?_
    refine jtop r5.1 ?_
    refine jw_u rfl ?_
    refine jw_u rfl ⟨fun (c3 : nI 8 ≤ nI (gN z).1) => absurd c3 (nI_ge c2 (by decide)), fun _ => ?_⟩
    iterate 4 refine jw_u rfl ?_
    refine jtop r5.1 ?_
    refine jw_u rfl ?_
    refine jw_u rfl (jsN (show (gN z).1 < 8 by omega) (by decide) ?_)
    iterate 3 refine jw_u rfl ?_
    refine jtop (v' := nI (gN z).1) (by rw [ju_o (by decide)]; exact r5.1) ?_
    iterate 2 refine jw_u rfl ?_
    refine jtop (nI_add (gN z).1 1) ?_
    refine jw_u rfl ⟨fun h => (by cases h), ?_⟩
    refine jw_u rfl ?_
    exact ⟨rfl, rfl⟩
  iterate 4 refine jw_u rfl ?_
  refine jo_mono (fun rv x' hr => ?_) call
  obtain ⟨rfl, rfl⟩ := hr
  iterate 3 refine jw_u rfl ?_
  refine jtop (ju_s _ _ _ _) ?_
  refine jw_u rfl ?_
  have fr : ∀ i, i ≠ 116 → i ≠ 117 → ju (ju x 117 (gN z).1 (nI a)) 116 0 (nI ((gN z).1 + 1)) i = x i := fun i h1 h2 => by rw [ju_oo h1, ju_oo h2]
  refine ⟨fun h => (by cases h), h _ ⟨xC_f (fun i g1 g2 => fr i (by omega) (by omega)) r1, xS_f (fun i g1 g2 => fr i (by omega) (by omega)) r2, ⟨nx, xH_f (fun i g1 g2 => fr i (by omega) (by omega)) r3⟩, xI_f (fun i g1 g2 => fr i (by omega) (by omega)) r4, ⟨ju_s _ _ _ _, fun k hk => ?_, ?_, fun k hk => ?_, fun k hk => ?_⟩, ?_, ?_, ?_⟩ (fun i hi => fr i (by omega) (by omega))⟩
  · rw [ju_o (by decide)]
    by_cases e : k = (gN z).1
    · subst e
      show ju x 117 (gN z).1 (nI a) 117 (gN z).1 = nI (upN (gN z).2 (gN z).1 a (gN z).1)
      rw [ju_s, upN_s]
    · show ju x 117 (gN z).1 (nI a) 117 k = nI (upN (gN z).2 (gN z).1 a k)
      rw [ju_k e, upN_o e]
      exact r5.2.1 k (by have hk : k < (gN z).1 + 1 := hk; omega)
  · rw [ju_k (by decide), ju_o (by decide)]; exact r5.2.2.1
  · rw [fr 118 (by decide) (by decide)]; exact r5.2.2.2.1 k hk
  · rw [fr 119 (by decide) (by decide)]; exact r5.2.2.2.2 k hk
  · rw [fr 0 (by decide) (by decide)]; exact r6
  · rw [fr 0 (by decide) (by decide)]; exact r7
  · exact ⟨by rw [fr 1 (by decide) (by decide)]; exact r8.1, fun k hk => by rw [fr 2 (by decide) (by decide)]; exact r8.2 k hk⟩
theorem C_write {p m : Int32} (hx : RX z x) (hw : wX z) (h : ∀ x', RX (fWrite z p m).2 x' → (∀ i, 121 ≤ i → x' i = x i) → Q (some (.int (fWrite z p m).1)) x') : jo (d + 2) 55 [.ref 0, .int p, .int m] x Q := by
  obtain ⟨r1, r2, ⟨nx, r3⟩, r4, r5, r6, r7, r8⟩ := id hx
  obtain ⟨w1, w2, w3, w4, w5, w6, -⟩ := id hw
  have b3 := w1.2.2.1
  have bp := w6.1
  refine jo_i rfl rfl (Nat.le_of_ble_eq_true rfl) ?_
  iterate 3 refine jw_u rfl ?_
  refine c_isPerson r1.2.2.1 (fun hp => ?_) (fun hp => ?_)
  rotate_left
  · refine jw_u rfl ⟨fun c => absurd n00 c, fun _ => ?_⟩
    rw [show fWrite z p m = (kU, z) by unfold fWrite; rw [if_neg hp]] at h
    iterate 2 refine jw_u rfl ?_
    exact ⟨fun h => (by cases h), h x hx (fun _ _ => rfl)⟩
  refine jw_u rfl ⟨fun _ => ?_, fun c => absurd c n10⟩
  iterate 2 refine jw_u rfl ?_
  refine c_isMark (fun hm => ?_) (fun hm => ?_)
  rotate_left
  · refine jw_u rfl ⟨fun c => absurd n00 c, fun _ => ?_⟩
    rw [show fWrite z p m = (kO, z) by unfold fWrite; rw [if_pos hp, if_neg hm]] at h
    iterate 2 refine jw_u rfl ?_
    exact ⟨fun h => (by cases h), h x hx (fun _ _ => rfl)⟩
  refine jw_u rfl ⟨fun _ => ?_, fun c => absurd c n10⟩
  have hpm := And.intro hp hm
  obtain ⟨j, hj, rfl⟩ := ilt (by omega) hp
  obtain ⟨a, ha, rfl⟩ := ilt (by decide) hm
  have r53 := r5.2.2.1
  iterate 3 refine jw_u rfl ?_
  refine jtop r53 ?_
  refine jw_u rfl ?_
  refine jw_u rfl ⟨fun (c2 : nI (gB z).1 < nI 15) => ?_, fun (c2 : ¬ nI (gB z).1 < nI 15) => ?_⟩
  rotate_left
  · rw [nI_ltI (by omega) (by decide)] at c2
    rw [show fWrite z (nI j) (nI a) = (kF, z) by unfold fWrite; rw [if_pos hpm.1, if_pos hpm.2, if_neg c2]] at h
    iterate 2 refine jw_u rfl ?_
    exact ⟨fun h => (by cases h), h x hx (fun _ _ => rfl)⟩
  rw [nI_ltI (by omega) (by decide)] at c2
  rw [show fWrite z (nI j) (nI a) = (nI ((gB z).1 + 1), (gC z, gS z, gH z, gI z, gN z, ((gB z).1 + 1, upN (gB z).2.1 (gB z).1 j, upN (gB z).2.2 (gB z).1 a), gD z, gF z, gT z)) by unfold fWrite; rw [if_pos hpm.1, if_pos hpm.2, if_pos c2, nI_clamp (by omega), nI_clamp (by omega)]] at h
  have call : jo (d + 1) 6 [.ref 116, .int (nI j), .int (nI a)] x (fun rv x' => rv = none ∧ x' = ju (ju (ju x 118 (gB z).1 (nI j)) 119 (gB z).1 (nI a)) 116 2 (nI ((gB z).1 + 1))) := by
    refine jo_i rfl rfl (Nat.le_of_ble_eq_true rfl) ?_
    iterate 2 refine jw_u rfl ?_
    refine jtop r53 ?_
    refine jw_u rfl ?_
    refine jw_u rfl ⟨fun (c3 : nI 15 ≤ nI (gB z).1) => absurd c3 (nI_ge c2 (by decide)), fun _ => ?_⟩
    iterate 4 refine jw_u rfl ?_
    refine jtop r53 ?_
    refine jw_u rfl ?_
    refine jw_u rfl (jsN (show (gB z).1 < 15 by omega) (by decide) ?_)
    iterate 4 refine jw_u rfl ?_
    refine jtop (v' := nI (gB z).1) (by rw [ju_o (by decide)]; exact r53) ?_
    refine jw_u rfl ?_
    refine jw_u rfl (jsN (show (gB z).1 < 15 by omega) (by decide) ?_)
    iterate 3 refine jw_u rfl ?_
    refine jtop (v' := nI (gB z).1) (by rw [ju_o (by decide), ju_o (by decide)]; exact r53) ?_
    iterate 2 refine jw_u rfl ?_
    refine jtop (nI_add (gB z).1 1) ?_
    refine jw_u rfl ⟨fun h => (by cases h), ?_⟩
    refine jw_u rfl ?_
    exact ⟨rfl, rfl⟩
  iterate 5 refine jw_u rfl ?_
  refine jo_mono (fun rv x' hr => ?_) call
  obtain ⟨rfl, rfl⟩ := hr
  iterate 3 refine jw_u rfl ?_
  refine jtop (ju_s _ _ _ _) ?_
  refine jw_u rfl ?_
  have fr : ∀ i, i ≠ 116 → i ≠ 118 → i ≠ 119 → ju (ju (ju x 118 (gB z).1 (nI j)) 119 (gB z).1 (nI a)) 116 2 (nI ((gB z).1 + 1)) i = x i := fun i h1 h2 h3 => by rw [ju_oo h1, ju_oo h3, ju_oo h2]
  refine ⟨fun h => (by cases h), h _ ⟨xC_f (fun i g1 g2 => fr i (by omega) (by omega) (by omega)) r1, xS_f (fun i g1 g2 => fr i (by omega) (by omega) (by omega)) r2, ⟨nx, xH_f (fun i g1 g2 => fr i (by omega) (by omega) (by omega)) r3⟩, xI_f (fun i g1 g2 => fr i (by omega) (by omega) (by omega)) r4, ⟨?_, fun k hk => ?_, ju_s _ _ _ _, fun k hk => ?_, fun k hk => ?_⟩, ?_, ?_, ?_⟩ (fun i hi => fr i (by omega) (by omega) (by omega))⟩
  · rw [ju_k (by decide), ju_o (by decide), ju_o (by decide)]; exact r5.1
  · rw [fr 117 (by decide) (by decide) (by decide)]; exact r5.2.1 k hk
  · rw [ju_o (by decide), ju_o (by decide)]
    by_cases e : k = (gB z).1
    · subst e
      show ju x 118 (gB z).1 (nI j) 118 (gB z).1 = nI (upN (gB z).2.1 (gB z).1 j (gB z).1)
      rw [ju_s, upN_s]
    · show ju x 118 (gB z).1 (nI j) 118 k = nI (upN (gB z).2.1 (gB z).1 j k)
      rw [ju_k e, upN_o e]
      exact r5.2.2.2.1 k (by have hk : k < (gB z).1 + 1 := hk; omega)
  · rw [ju_o (by decide)]
    by_cases e : k = (gB z).1
    · subst e
      show ju (ju x 118 (gB z).1 (nI j)) 119 (gB z).1 (nI a) 119 (gB z).1 = nI (upN (gB z).2.2 (gB z).1 a (gB z).1)
      rw [ju_s, upN_s]
    · show ju (ju x 118 (gB z).1 (nI j)) 119 (gB z).1 (nI a) 119 k = nI (upN (gB z).2.2 (gB z).1 a k)
      rw [ju_k e, ju_o (by decide), upN_o e]
      exact r5.2.2.2.2 k (by have hk : k < (gB z).1 + 1 := hk; omega)
  · rw [fr 0 (by decide) (by decide) (by decide)]; exact r6
  · rw [fr 0 (by decide) (by decide) (by decide)]; exact r7
  · exact ⟨by rw [fr 1 (by decide) (by decide) (by decide)]; exact r8.1, fun k hk => by rw [fr 2 (by decide) (by decide) (by decide)]; exact r8.2 k hk⟩
theorem C_tear (hx : RX z x) (h : ∀ x', RX (fTear z).2 x' → (∀ i, 121 ≤ i → x' i = x i) → Q (some (.int (fTear z).1)) x') : jo (d + 2) 56 [.ref 0] x Q := by
  obtain ⟨r1, r2, ⟨nx, r3⟩, r4, r5, r6, r7, r8⟩ := id hx
  refine jo_i rfl rfl (Nat.le_of_ble_eq_true rfl) ?_
  iterate 3 refine jw_u rfl ?_
  refine jtop r5.1 ?_
  iterate 3 refine jw_u rfl ?_
  refine jtop r5.2.2.1 ?_
  refine jw_u rfl ?_
  refine jtop (nI_add _ _) ?_
  iterate 4 refine jw_u rfl ?_
  refine c_clearAll ?_
  iterate 2 refine jw_u rfl ?_
  have fr : ∀ i, i ≠ 116 → ju (ju x 116 0 (nI 0)) 116 2 (nI 0) i = x i := fun i h1 => by rw [ju_oo h1, ju_oo h1]
  refine ⟨fun h => (by cases h), h _ ⟨xC_f (fun i g1 g2 => fr i (by omega)) r1, xS_f (fun i g1 g2 => fr i (by omega)) r2, ⟨nx, xH_f (fun i g1 g2 => fr i (by omega)) r3⟩, xI_f (fun i g1 g2 => fr i (by omega)) r4, ⟨?_, fun k hk => absurd hk (Nat.not_lt_zero _), ju_s _ _ _ _, fun k hk => absurd hk (Nat.not_lt_zero _), fun k hk => absurd hk (Nat.not_lt_zero _)⟩, ?_, ?_, ?_⟩ (fun i hi => fr i (by omega))⟩
  · rw [ju_k (by decide)]; exact ju_s _ _ _ _
  · rw [fr 0 (by decide)]; exact r6
  · rw [fr 0 (by decide)]; exact r7
  · exact ⟨by rw [fr 1 (by decide)]; exact r8.1, fun k hk => by rw [fr 2 (by decide)]; exact r8.2 k hk⟩
theorem C_feed {v : Int32} (hx : RX z x) (hw : wX z) (h : ∀ x', RX (fFeed z v).2 x' → (∀ i, 121 ≤ i → x' i = x i) → Q (some (.int (fFeed z v).1)) x') : jo (d + 2) 24 [.ref 0, .int v] x Q := by
  obtain ⟨r1, r2, ⟨nx, r3⟩, r4, r5, r6, r7, r8⟩ := id hx
  have bt_ := hw.2.2.2.2.2.2.2.1
  refine jo_i rfl rfl (Nat.le_of_ble_eq_true rfl) ?_
  refine jw_u rfl ?_
  have out : ¬ (0 ≤ v ∧ v < nI 256) → jw (d + 1) kX6_feed Q 5 [some (.ref 0), some (.int v)] [] x := by
    intro hm
    rw [show fFeed z v = (kO, z) by unfold fFeed; rw [if_neg hm]] at h
    iterate 2 refine jw_u rfl ?_
    exact ⟨fun h => (by cases h), h x hx (fun _ _ => rfl)⟩
  refine jw_u rfl ⟨fun (c : v < 0) => out (fun hc => absurd hc.1 (by simpa using c)), fun (c : ¬ v < 0) => ?_⟩
  iterate 2 refine jw_u rfl ?_
  refine jw_u rfl ⟨fun (c' : v ≤ nI 255) => ?_, fun (c' : ¬ v ≤ nI 255) => out (fun hc => ?_)⟩
  rotate_left
  · obtain ⟨j, hj, rfl⟩ := ilt (by decide) hc
    exact c' (nI_le (by omega) (by decide))
  obtain ⟨j, hj, rfl⟩ := nI_of2 (n := 255) (by decide) c c'
  have hm : 0 ≤ nI j ∧ nI j < nI 256 := ilt2 (by decide) (by omega)
  iterate 3 refine jw_u rfl ?_
  refine jtop r8.1 ?_
  refine jw_u rfl ?_
  refine jw_u rfl ⟨fun (c2 : nI (gT z).1 < nI 240) => ?_, fun (c2 : ¬ nI (gT z).1 < nI 240) => ?_⟩
  rotate_left
  · rw [nI_ltI (by omega) (by decide)] at c2
    rw [show fFeed z (nI j) = (kF, z) by unfold fFeed; rw [if_pos hm, if_neg c2]] at h
    iterate 2 refine jw_u rfl ?_
    exact ⟨fun h => (by cases h), h x hx (fun _ _ => rfl)⟩
  rw [nI_ltI (by omega) (by decide)] at c2
  rw [show fFeed z (nI j) = (nI ((gT z).1 + 1), (gC z, gS z, gH z, gI z, gN z, gB z, gD z, gF z, ((gT z).1 + 1, upN (gT z).2 (gT z).1 j))) by unfold fFeed; rw [if_pos hm, if_pos c2, nI_clamp (by omega)]] at h
  have call : jo (d + 1) 8 [.ref 1, .int (nI j)] x (fun rv x' => rv = none ∧ x' = ju (ju x 2 (gT z).1 (nI j)) 1 1 (nI ((gT z).1 + 1))) := by
    refine jo_i rfl rfl (Nat.le_of_ble_eq_true rfl) ?_
    iterate 2 refine jw_u rfl ?_
    refine jtop r8.1 ?_
    refine jw_u rfl ?_
    refine jw_u rfl ⟨fun (c3 : nI 240 ≤ nI (gT z).1) => absurd c3 (nI_ge c2 (by decide)), fun _ => ?_⟩
    iterate 4 refine jw_u rfl ?_
    refine jtop r8.1 ?_
    refine jw_u rfl ?_
    refine jw_u rfl (jsN (show (gT z).1 < 240 by omega) (by decide) ?_)
    iterate 3 refine jw_u rfl ?_
    refine jtop (v' := nI (gT z).1) (by rw [ju_o (by decide)]; exact r8.1) ?_
    iterate 2 refine jw_u rfl ?_
    refine jtop (nI_add (gT z).1 1) ?_
    refine jw_u rfl ⟨fun h => (by cases h), ?_⟩
    refine jw_u rfl ?_
    exact ⟨rfl, rfl⟩
  iterate 4 refine jw_u rfl ?_
  refine jo_mono (fun rv x' hr => ?_) call
  obtain ⟨rfl, rfl⟩ := hr
  iterate 3 refine jw_u rfl ?_
  refine jtop (ju_s _ _ _ _) ?_
  refine jw_u rfl ?_
  have fr : ∀ i, i ≠ 1 → i ≠ 2 → ju (ju x 2 (gT z).1 (nI j)) 1 1 (nI ((gT z).1 + 1)) i = x i := fun i h1 h2 => by rw [ju_oo h1, ju_oo h2]
  refine ⟨fun h => (by cases h), h _ ⟨xC_f (fun i g1 g2 => fr i (by omega) (by omega)) r1, xS_f (fun i g1 g2 => fr i (by omega) (by omega)) r2, ⟨nx, xH_f (fun i g1 g2 => fr i (by omega) (by omega)) r3⟩, xI_f (fun i g1 g2 => fr i (by omega) (by omega)) r4, xN_f (fun i g1 g2 => fr i (by omega) (by omega)) r5, ?_, ?_, ju_s _ _ _ _, fun k hk => ?_⟩ (fun i hi => fr i (by omega) (by omega))⟩
  · rw [fr 0 (by decide) (by decide)]; exact r6
  · rw [fr 0 (by decide) (by decide)]; exact r7
  · rw [ju_o (by decide)]
    by_cases e : k = (gT z).1
    · subst e
      show ju x 2 (gT z).1 (nI j) 2 (gT z).1 = nI (upN (gT z).2 (gT z).1 j (gT z).1)
      rw [ju_s, upN_s]
    · show ju x 2 (gT z).1 (nI j) 2 k = nI (upN (gT z).2 (gT z).1 j k)
      rw [ju_k e, upN_o e]
      exact r8.2 k (by have hk : k < (gT z).1 + 1 := hk; omega)
end CE
end
section
/-! THE CLASS: images, shakes -/
def wo (w : Nat) : Nat := if w = 0 then 100 else if w = 1 then 10 else 1
/-- a mark shaken in its part w, up if c = 1 -/
def sh (a w c : Nat) : Nat := if c = 1 then (if dg a w < 9 then a + wo w else a) else (if 0 < dg a w then a - wo w else a)
theorem sh_lt {a w c : Nat} (ha : a < 1000) (hw : w < 3) : sh a w c < 1000 := by
  unfold sh dg wo
  rcases (show w = 0 ∨ w = 1 ∨ w = 2 by omega) with rfl | rfl | rfl <;> simp <;> split <;> split <;> omega
theorem wo_le {a w : Nat} (ha : a < 1000) (hw : w < 3) (h : 0 < dg a w) : wo w ≤ a := by
  unfold dg at h
  unfold wo
  rcases (show w = 0 ∨ w = 1 ∨ w = 2 by omega) with rfl | rfl | rfl <;> simp at h ⊢ <;> omega
/-- seeds and hands after a shake -/
def s1k (s n : Nat) (f : Nat → Nat) : Nat × (Nat → Nat) :=
  (ns (ns (ns s)), upN f (ns s / 65536 % n) (sh (f (ns s / 65536 % n)) (ns (ns s) / 65536 % 3) (ns (ns (ns s)) / 65536 % 2)))
def itN (g : Nat × (Nat → Nat) → Nat × (Nat → Nat)) : Nat → Nat × (Nat → Nat) → Nat × (Nat → Nat)
  | 0, p => p
  | k + 1, p => itN g k (g p)
theorem itN_s (g : Nat × (Nat → Nat) → Nat × (Nat → Nat)) (k : Nat) (p : Nat × (Nat → Nat)) : itN g (k + 1) p = itN g k (g p) := rfl
theorem itN_0 (g : Nat × (Nat → Nat) → Nat × (Nat → Nat)) (p : Nat × (Nat → Nat)) : itN g 0 p = p := rfl
abbrev s1g (n : Nat) : Nat × (Nat → Nat) → Nat × (Nat → Nat) := fun p => s1k p.1 n p.2
def skN (n k : Nat) (p : Nat × (Nat → Nat)) : Nat × (Nat → Nat) := itN (s1g n) k p
theorem skN_s (n k : Nat) (p : Nat × (Nat → Nat)) : skN n (k + 1) p = skN n k (s1g n p) := itN_s _ _ _
theorem skN_0 (n : Nat) (p : Nat × (Nat → Nat)) : skN n 0 p = p := itN_0 _ _
theorem ju_id {x : jM} {o k : Nat} {v : Int32} (h : x o k = v) : ju x o k v = x := by
  funext i j
  by_cases e : i = o
  · subst e
    by_cases e2 : j = k
    · subst e2; rw [ju_s]; exact h.symm
    · rw [ju_k e2]
  · rw [ju_o e]
section CF
variable {d : Nat} {x : jM} {Q : Option Value → jM → Prop} {z : aX}
theorem c_shakeOnce {n s : Nat} {hd : Nat → Nat} (hn : x 11 2 = nI n) (h8 : n ≤ 8) (h0 : 0 < n) (hs : x 0 8 = nI s) (bs : s < 2147483648) (hh : ∀ k, k < n → x 16 k = nI (hd k)) (bh : ∀ k, k < n → hd k < 1000)
    (h : ∀ x', (∀ i, i ≠ 0 → i ≠ 16 → x' i = x i) → (∀ k, k ≠ 8 → x' 0 k = x 0 k) → x' 0 8 = nI (s1k s n hd).1 → (∀ k, k < n → x' 16 k = nI ((s1k s n hd).2 k)) → Q none x') : jo (d + 2) 82 [.ref 0] x Q := by
  have q1 := ns_lt s
  have q2 := ns_lt (ns s)
  have q3 := ns_lt (ns (ns s))
  generalize hp : ns s / 65536 % n = p at *
  generalize hw : ns (ns s) / 65536 % 3 = w at *
  generalize hc : ns (ns (ns s)) / 65536 % 2 = c at *
  have bp : p < n := by rw [← hp]; exact Nat.mod_lt _ h0
  have bw : w < 3 := by rw [← hw]; exact Nat.mod_lt _ (by decide)
  have bc : c < 2 := by rw [← hc]; exact Nat.mod_lt _ (by decide)
  have e1 : (s1k s n hd).1 = ns (ns (ns s)) := rfl
  have e2 : (s1k s n hd).2 = upN hd p (sh (hd p) w c) := by unfold s1k; rw [hp, hw, hc]
  rw [e1, e2] at h
  generalize hx1 : ju (ju (ju x 0 8 (nI (ns s))) 0 8 (nI (ns (ns s)))) 0 8 (nI (ns (ns (ns s)))) = x1
  have f1 : ∀ i, i ≠ 0 → x1 i = x i := fun i hi => by rw [← hx1, ju_oo hi, ju_oo hi, ju_oo hi]
  have f2 : ∀ k, k ≠ 8 → x1 0 k = x 0 k := fun k hk => by rw [← hx1, ju_k hk, ju_k hk, ju_k hk]
  have f3 : x1 0 8 = nI (ns (ns (ns s))) := by rw [← hx1, ju_s]
  have fin : ∀ v : Int32, v = nI (sh (hd p) w c) → Q none (ju x1 16 p v) := by
    intro v hv
    refine h _ (fun i g1 g2 => by rw [ju_oo g2]; exact f1 i g1) (fun k hk => by rw [ju_o (by decide)]; exact f2 k hk) (by rw [ju_o (by decide)]; exact f3) (fun k hk => ?_)
    by_cases e : k = p
    · subst e
      rw [ju_s, upN_s]
      exact hv
    · rw [ju_k e, upN_o e, f1 16 (by decide)]
      exact hh k hk
  have eh : x1 16 p = nI (hd p) := by rw [f1 16 (by decide)]; exact hh p bp
  have bd : dg (hd p) w < 10 := dg_lt (bh p bp)
  have bhp := bh p bp
  -- from the place 24 on, by the change
  have tail : ∀ ch : Int32, (ch = nI 1 ∧ c = 1) ∨ (ch = jc (-1) ∧ c = 0) → jw (d + 1) kX6_shakeOnce Q 18 [some (.ref 0), some (.int (nI p)), some (.int (nI w)), none, none, none, none] [.int ch] x1 := by
    intro ch hch
    iterate 4 refine jw_u rfl ?_
    refine c_isPerson (n := n) (by rw [f1 11 (by decide)]; exact hn) (fun _ => ?_) (fun hc2 => absurd (ilt2 (by omega) bp) hc2)
    refine jw_u rfl ⟨fun _ => ?_, fun c => absurd c n10⟩
    iterate 4 refine jw_u rfl ?_
    refine jw_u rfl (jaN (show p < 8 by omega) (by decide) eh ?_)
    iterate 2 refine jw_u rfl ?_
    refine c_part bhp bw ?_
    -- the new figure
    have key : ∃ sk : Nat, sk < 10 ∧ ((if nI 0 < (if nI (dg (hd p) w) + ch < nI 9 then nI (dg (hd p) w) + ch else nI 9) then (if nI (dg (hd p) w) + ch < nI 9 then nI (dg (hd p) w) + ch else nI 9) else nI 0) = nI sk) ∧ nI (hd p) + nI (wo w) * (nI sk - nI (dg (hd p) w)) = nI (sh (hd p) w c) := by
      rcases hch with ⟨rfl, rfl⟩ | ⟨rfl, rfl⟩
      · refine ⟨min (dg (hd p) w + 1) 9, by omega, ?_, ?_⟩
        · rw [nI_add, show (if nI (dg (hd p) w + 1) < nI 9 then nI (dg (hd p) w + 1) else nI 9) = nI (min (dg (hd p) w + 1) 9) from ?_, if_pos (nI_lt (by omega) (by omega))]
          have := mn_nI (a := 9) (b := dg (hd p) w + 1) (by decide) (by omega)
          rw [Nat.min_comm] at this
          exact this
        · rw [pk_sub (by omega), pk_mul, nI_add]
          refine congrArg nI ?_
          unfold sh
          rw [if_pos rfl]
          split
          · rw [show min (dg (hd p) w + 1) 9 - dg (hd p) w = 1 by omega, Nat.mul_one]
          · rw [show min (dg (hd p) w + 1) 9 - dg (hd p) w = 0 by omega, Nat.mul_zero, Nat.add_zero]
      · refine ⟨dg (hd p) w - 1, by omega, ?_, ?_⟩
        · rw [show nI (dg (hd p) w) + jc (-1) = nI (dg (hd p) w) - nI 1 from (Int32.sub_eq_add_neg _ _).symm]
          have h9 : nI (dg (hd p) w) - nI 1 < nI 9 := by
            rw [Int32.lt_iff_toInt_lt, pk_sub_toInt (by omega) (by decide), nI_toInt (by decide)]
            omega
          rw [if_pos h9]
          by_cases hz : dg (hd p) w = 0
          · rw [hz]
            decide
          · rw [pk_sub (by omega)]
            by_cases h1 : dg (hd p) w = 1
            · rw [h1]
              decide
            · rw [if_pos (nI_lt (by omega) (by omega))]
        · unfold sh
          rw [if_neg (by decide)]
          split
          · next hpos =>
            have hwo := wo_le bhp bw hpos
            have : nI (dg (hd p) w - 1) - nI (dg (hd p) w) = - nI 1 := by
              rw [← pk_sub (a := dg (hd p) w) (b := 1) (by omega)]
              rw [Int32.sub_eq_add_neg, Int32.sub_eq_add_neg, Int32.add_comm (nI (dg (hd p) w)) (-nI 1), Int32.add_assoc, Int32.add_right_neg, Int32.add_zero]
            rw [this, Int32.mul_neg, show nI 1 = (1 : Int32) from rfl, Int32.mul_one, ← Int32.sub_eq_add_neg, pk_sub hwo]
          · next hpos =>
            rw [show dg (hd p) w = 0 by omega]
            show nI (hd p) + nI (wo w) * (nI 0 - nI 0) = _
            rw [Int32.sub_self, Int32.mul_zero, Int32.add_zero]
    obtain ⟨sk, bsk, k1, k2⟩ := key
    iterate 6 refine jw_u rfl ?_
    iterate 2 refine jw_u rfl ?_
    refine jtop k1 ?_
    have last : jw (d + 1) kX6_shakeOnce Q 50 [some (.ref 0), some (.int (nI p)), some (.int (nI w)), some (.int ch), some (.int (nI (dg (hd p) w))), some (.int (nI sk)), none] [.int (nI (wo w))] x1 := by
      iterate 6 refine jw_u rfl ?_
      refine jw_u rfl (jaN (show p < 8 by omega) (by decide) eh ?_)
      iterate 6 refine jw_u rfl ?_
      refine jw_u rfl (jsN (show p < 8 by omega) (by decide) ?_)
      refine jw_u rfl ?_
      exact fin _ k2
    iterate 2 refine jw_u rfl ?_
    refine jw_u rfl ⟨fun (c1 : ¬ nI w = 0) => ?_, fun (c1 : nI w = 0) => ?_⟩
    · have w0 : ¬ w = 0 := fun e => c1 (by rw [e]; decide)
      iterate 2 refine jw_u rfl ?_
      refine jw_u rfl ⟨fun (c2 : ¬ nI w = nI 1) => ?_, fun (c2 : nI w = nI 1) => ?_⟩
      · have w1 : ¬ w = 1 := fun e => c2 (by rw [e])
        refine jw_u rfl ?_
        rw [show wo w = 1 by unfold wo; rw [if_neg w0, if_neg w1]] at last
        exact last
      · rw [nI_eq (by omega) (by decide)] at c2
        iterate 2 refine jw_u rfl ?_
        rw [show wo w = 10 by unfold wo; rw [if_neg w0, if_pos c2]] at last
        exact last
    · have w0 : w = 0 := (nI_eq (by omega) (by decide)).mp (c1.trans n00.symm)
      iterate 2 refine jw_u rfl ?_
      rw [show wo w = 100 by unfold wo; rw [if_pos w0]] at last
      exact last
  refine jo_i rfl rfl (Nat.le_of_ble_eq_true rfl) ?_
  iterate 4 refine jw_u rfl ?_
  refine jtop hn ?_
  refine jw_u rfl ?_
  refine c_draw hs bs h0 (by omega) ?_
  rw [hp]
  iterate 4 refine jw_u rfl ?_
  refine c_draw (n := 3) (ju_s x 0 8 _) q1 (by decide) (by decide) ?_
  rw [hw]
  iterate 4 refine jw_u rfl ?_
  refine c_draw (n := 2) (ju_s _ 0 8 _) q2 (by decide) (by decide) ?_
  rw [hc, hx1]
  refine jw_u rfl ?_
  refine jw_u rfl ⟨fun (c1 : ¬ nI c = nI 1) => ?_, fun (c1 : nI c = nI 1) => ?_⟩
  · rw [nI_eq (by omega) (by decide)] at c1
    refine jw_u rfl ?_
    exact tail _ (Or.inr ⟨rfl, by omega⟩)
  · rw [nI_eq (by omega) (by decide)] at c1
    iterate 2 refine jw_u rfl ?_
    exact tail _ (Or.inl ⟨rfl, c1⟩)
end CF
end
section
/-! THE CLASS: images, drift -/
def drR (z : aX) (j : Nat) : Nat × (Nat → Nat) := if 0 < cN (gC z) then skN (cN (gC z)) j (gD z, sH (gS z)) else (gD z, sH (gS z))
def drZ (z : aX) (r : Nat × (Nat → Nat)) : aX := (gC z, (r.2, sP (gS z), sM (gS z), sN (gS z), sY (gS z)), (gS z :: gH z).take 20, gI z, gN z, gB z, r.1, gF z, gT z)
def fDrift (z : aX) (m : Int32) : Int32 × aX :=
  if nI 1 ≤ m ∧ m ≤ nI 60 then (if cT (gC z) = 1 then (nI (cA (fun p => (drR z m.toNatClampNeg).2 p != sH (gS z) p) (cN (gC z))), drZ z (drR z m.toNatClampNeg)) else (kX, z)) else (kO, z)
theorem s1k_lt {s n : Nat} {f : Nat → Nat} (h0 : 0 < n) (hf : ∀ k, k < n → f k < 1000) : (s1k s n f).1 < 2147483648 ∧ ∀ k, k < n → (s1k s n f).2 k < 1000 := by
  refine ⟨ns_lt _, fun k hk => ?_⟩
  unfold s1k
  show upN f _ _ k < 1000
  by_cases e : k = ns s / 65536 % n
  · rw [e, upN_s]
    exact sh_lt (hf _ (Nat.mod_lt _ h0)) (Nat.mod_lt _ (by decide))
  · rw [upN_o e]
    exact hf k hk
theorem skN_lt {n : Nat} (h0 : 0 < n) (k : Nat) : ∀ (p : Nat × (Nat → Nat)), p.1 < 2147483648 → (∀ k, k < n → p.2 k < 1000) → (skN n k p).1 < 2147483648 ∧ ∀ j, j < n → (skN n k p).2 j < 1000 := by
  induction k with
  | zero => intro p h1 h2; rw [skN_0]; exact ⟨h1, h2⟩
  | succ k ih =>
    intro p h1 h2
    rw [skN_s]
    have := s1k_lt (s := p.1) h0 h2
    exact ih _ this.1 this.2
section CG
variable {d : Nat} {x : jM} {Q : Option Value → jM → Prop} {z : aX}
theorem C_keep {i : Int32} (hx : RX z x) (hw : wX z) (h : ∀ x', RX (fKeep z i).2 x' → (∀ k, 121 ≤ k → x' k = x k) → Q (some (.int (fKeep z i).1)) x') : jo (d + 2) 59 [.ref 0, .int i] x Q := by
  obtain ⟨r1, r2, ⟨nx, r3⟩, r4, r5, r6, r7, r8⟩ := id hx
  obtain ⟨w1, w2, -⟩ := id hw
  have b3 := w1.2.2.1
  refine jo_i rfl rfl (Nat.le_of_ble_eq_true rfl) ?_
  iterate 2 refine jw_u rfl ?_
  refine c_isImage (fun hm => ?_) (fun hm => ?_)
  rotate_left
  · refine jw_u rfl ⟨fun c => absurd n00 c, fun _ => ?_⟩
    rw [show fKeep z i = (kU, z) by unfold fKeep; rw [if_neg hm]] at h
    iterate 2 refine jw_u rfl ?_
    exact ⟨fun h => (by cases h), h x hx (fun _ _ => rfl)⟩
  refine jw_u rfl ⟨fun _ => ?_, fun c => absurd c n10⟩
  have hm2 := hm
  obtain ⟨j, hj, rfl⟩ := ilt (by decide) hm
  rw [show fKeep z (nI j) = (nI 1, (gC z, gS z, [], (fun k => if k = j then some (gS z, gD z) else gI z k), gN z, gB z, gD z, gF z, gT z)) by unfold fKeep; rw [if_pos hm2, nI_clamp (by omega)]] at h
  have hst : stI (107 + 5 * j) := by
    rcases (show j = 0 ∨ j = 1 by omega) with rfl | rfl
    · exact stI_107
    · exact stI_112
  have fin : ∀ x2, x2 = ju (ju (cpS (ju x (106 + 5 * j) 0 (nI 1)) (107 + 5 * j) 15) (106 + 5 * j) 2 (nI (gD z))) 23 1 (nI 0) → Q (some (.int (nI 1))) x2 := by
    intro x2 e
    generalize hy1 : ju x (106 + 5 * j) 0 (nI 1) = y1 at e
    have f1 : ∀ k, k ≠ 106 + 5 * j → y1 k = x k := fun k hk => by rw [← hy1, ju_oo hk]
    have hX := xS_cp (x := y1) (o := 107 + 5 * j) (s := 15) (n := cN (gC z)) (Or.inr (by omega)) b3 w2.2.1 (xS_f (fun k g1 g2 => f1 k (by omega)) r2)
    have f2 : ∀ k, k < 107 + 5 * j ∨ 107 + 5 * j + 3 < k → cpS y1 (107 + 5 * j) 15 k = y1 k := fun k hk => cpS_f (by omega)
    generalize hy2 : cpS y1 (107 + 5 * j) 15 = y2 at e hX f2
    have f3 : ∀ k, k ≠ 23 → k ≠ 106 + 5 * j → x2 k = y2 k := fun k h1 h2 => by rw [e, ju_oo h1, ju_oo h2]
    have fr : ∀ k, k ≠ 23 → (k < 106 + 5 * j ∨ 107 + 5 * j + 3 < k) → x2 k = x k := fun k h1 h2 => by rw [f3 k h1 (by omega), f2 k (by omega), f1 k (by omega)]
    have g0 : x2 (106 + 5 * j) 0 = nI 1 := by rw [e, ju_o (by omega), ju_k (by decide), f2 _ (by omega), ← hy1, ju_s]
    have g2 : x2 (106 + 5 * j) 2 = nI (gD z) := by rw [e, ju_o (by omega), ju_s]
    refine h x2 ⟨xC_f (fun k g1 g2 => fr k (by omega) (by omega)) r1, xS_f (fun k g1 g2 => fr k (by omega) (by omega)) r2, ⟨nx, ?_, ?_, r3.2.2.1, by show 0 ≤ 20; omega, fun k S hk => by cases hk⟩, fun k hk => ?_, xN_f (fun k g1 g2 => fr k (by omega) (by omega)) r5, ?_, ?_, ?_⟩ (fun k hk => fr k (by omega) (by omega))
    · rw [e, ju_s]
      rfl
    · rw [e, ju_k (by decide), ju_o (by omega), f2 23 (by omega), f1 23 (by omega)]
      exact r3.2.1
    · by_cases ej : k = j
      · subst ej
        refine ⟨fun hc => ?_, fun S s hc => ?_⟩
        · have hc : (if k = k then some (gS z, gD z) else gI z k) = none := hc
          rw [if_pos rfl] at hc
          cases hc
        · have hc : (if k = k then some (gS z, gD z) else gI z k) = some (S, s) := hc
          rw [if_pos rfl] at hc
          cases hc
          exact ⟨g0, xS_f (fun i g1 g2 => f3 i (by omega) (by omega)) hX, g2⟩
      · have := r4 k hk
        have e1 : x2 (106 + 5 * k) = x (106 + 5 * k) := fr _ (by omega) (by omega)
        refine ⟨fun hc => ?_, fun S s hc => ?_⟩
        · have hc : (if k = j then some (gS z, gD z) else gI z k) = none := hc
          rw [if_neg ej] at hc
          rw [e1]
          exact this.1 hc
        · have hc : (if k = j then some (gS z, gD z) else gI z k) = some (S, s) := hc
          rw [if_neg ej] at hc
          obtain ⟨q1, q2, q3⟩ := this.2 S s hc
          exact ⟨by rw [e1]; exact q1, xS_f (fun i g1 g2 => fr i (by omega) (by omega)) q2, by rw [e1]; exact q3⟩
    · rw [fr 0 (by decide) (by omega)]; exact r6
    · rw [fr 0 (by decide) (by omega)]; exact r7
    · exact ⟨by rw [fr 1 (by decide) (by omega)]; exact r8.1, fun k hk => by rw [fr 2 (by decide) (by omega)]; exact r8.2 k hk⟩
  rcases (show j = 0 ∨ j = 1 by omega) with rfl | rfl
  · iterate 3 refine jw_u rfl ?_
    refine jw_u rfl ⟨vp_in_nI (show 0 < 2 by decide) (by decide), jrk_r (j := 106) rfl ?_⟩
    refine jw_u rfl ?_
    refine jw_u rfl ⟨fun _ => Or.inr rfl, ?_⟩
    iterate 3 refine jw_u rfl ?_
    refine jw_u rfl ⟨vp_in_nI (show 0 < 2 by decide) (by decide), jrk_r (j := 106) rfl ?_⟩
    iterate 4 refine jw_u rfl ?_
    refine c_takeS stI_107 stI_15 ?_
    iterate 3 refine jw_u rfl ?_
    refine jw_u rfl ⟨vp_in_nI (show 0 < 2 by decide) (by decide), jrk_r (j := 106) rfl ?_⟩
    iterate 2 refine jw_u rfl ?_
    refine jtop (v' := nI (gD z)) (show cpS (ju x 106 0 (nI 1)) 107 15 0 8 = nI (gD z) by rw [cpS_f (by omega), ju_o (by decide)]; exact r6) ?_
    refine jw_u rfl ⟨fun h => (by cases h), ?_⟩
    iterate 3 refine jw_u rfl ?_
    refine c_forget ?_
    iterate 2 refine jw_u rfl ?_
    exact ⟨fun h => (by cases h), fin _ rfl⟩
  · iterate 3 refine jw_u rfl ?_
    refine jw_u rfl ⟨vp_in_nI (show 1 < 2 by decide) (by decide), jrk_r (j := 111) rfl ?_⟩
    refine jw_u rfl ?_
    refine jw_u rfl ⟨fun _ => Or.inr rfl, ?_⟩
    iterate 3 refine jw_u rfl ?_
    refine jw_u rfl ⟨vp_in_nI (show 1 < 2 by decide) (by decide), jrk_r (j := 111) rfl ?_⟩
    iterate 4 refine jw_u rfl ?_
    refine c_takeS stI_112 stI_15 ?_
    iterate 3 refine jw_u rfl ?_
    refine jw_u rfl ⟨vp_in_nI (show 1 < 2 by decide) (by decide), jrk_r (j := 111) rfl ?_⟩
    iterate 2 refine jw_u rfl ?_
    refine jtop (v' := nI (gD z)) (show cpS (ju x 111 0 (nI 1)) 112 15 0 8 = nI (gD z) by rw [cpS_f (by omega), ju_o (by decide)]; exact r6) ?_
    refine jw_u rfl ⟨fun h => (by cases h), ?_⟩
    iterate 3 refine jw_u rfl ?_
    refine c_forget ?_
    iterate 2 refine jw_u rfl ?_
    exact ⟨fun h => (by cases h), fin _ rfl⟩
theorem C_goBack {i : Int32} (hx : RX z x) (hw : wX z) (h : ∀ x', RX (fBack z i).2 x' → (∀ k, 121 ≤ k → x' k = x k) → Q (some (.int (fBack z i).1)) x') : jo (d + 2) 60 [.ref 0, .int i] x Q := by
  obtain ⟨r1, r2, ⟨nx, r3⟩, r4, r5, r6, r7, r8⟩ := id hx
  obtain ⟨w1, w2, w3, w4, -⟩ := id hw
  have b3 := w1.2.2.1
  refine jo_i rfl rfl (Nat.le_of_ble_eq_true rfl) ?_
  iterate 2 refine jw_u rfl ?_
  refine c_isImage (fun hm => ?_) (fun hm => ?_)
  rotate_left
  · refine jw_u rfl ⟨fun c => absurd n00 c, fun _ => ?_⟩
    rw [show fBack z i = (kU, z) by unfold fBack; rw [if_neg hm]] at h
    iterate 2 refine jw_u rfl ?_
    exact ⟨fun h => (by cases h), h x hx (fun _ _ => rfl)⟩
  refine jw_u rfl ⟨fun _ => ?_, fun c => absurd c n10⟩
  have hm2 := hm
  obtain ⟨j, hj, rfl⟩ := ilt (by decide) hm
  have r4j := r4 j hj
  have none_ : gI z j = none → fBack z (nI j) = (kX, z) := fun e => by unfold fBack; rw [if_pos hm2, nI_clamp (by omega), e]
  have some_ : ∀ S s, gI z j = some (S, s) → fBack z (nI j) = (nI 1, (gC z, S, [], gI z, gN z, gB z, s, gF z, gT z)) := fun S s e => by unfold fBack; rw [if_pos hm2, nI_clamp (by omega), e]
  have fin : ∀ S s, gI z j = some (S, s) → Q (some (.int (nI 1))) (ju (ju (cpS x 15 (107 + 5 * j)) 0 8 (nI s)) 23 1 (nI 0)) := by
    intro S s e
    rw [some_ S s e] at h
    obtain ⟨q1, q2, q3⟩ := r4j.2 S s e
    have hX := xS_cp (x := x) (o := 15) (s := 107 + 5 * j) (n := cN (gC z)) (Or.inl (by omega)) b3 (w4 j S s e).1.2.1 q2
    have f2 : ∀ k, k < 15 ∨ 18 < k → cpS x 15 (107 + 5 * j) k = x k := fun k hk => cpS_f (by omega)
    generalize cpS x 15 (107 + 5 * j) = y at hX f2
    have f3 : ∀ k, k ≠ 0 → k ≠ 23 → ju (ju y 0 8 (nI s)) 23 1 (nI 0) k = y k := fun k h1 h2 => by rw [ju_oo h2, ju_oo h1]
    have fr : ∀ k, k ≠ 0 → k ≠ 23 → (k < 15 ∨ 18 < k) → ju (ju y 0 8 (nI s)) 23 1 (nI 0) k = x k := fun k h1 h2 h3 => by rw [f3 k h1 h2, f2 k h3]
    refine h _ ⟨xC_f (fun k g1 g2 => fr k (by omega) (by omega) (by omega)) r1, xS_f (fun k g1 g2 => f3 k (by omega) (by omega)) hX, ⟨nx, ju_s _ _ _ _, ?_, r3.2.2.1, by show 0 ≤ 20; omega, fun k S hk => by cases hk⟩, xI_f (fun k g1 g2 => fr k (by omega) (by omega) (by omega)) r4, xN_f (fun k g1 g2 => fr k (by omega) (by omega) (by omega)) r5, ?_, ?_, ?_⟩ (fun k hk => fr k (by omega) (by omega) (by omega))
    · rw [ju_k (by decide), ju_o (by decide), f2 23 (by omega)]; exact r3.2.1
    · rw [ju_o (by decide), ju_s]
    · rw [ju_o (by decide), ju_k (by decide), f2 0 (by omega)]; exact r7
    · exact ⟨by rw [fr 1 (by decide) (by decide) (by omega)]; exact r8.1, fun k hk => by rw [fr 2 (by decide) (by decide) (by omega)]; exact r8.2 k hk⟩
  cases hg : gI z j with
  | none =>
    rw [none_ hg] at h
    have e0 := r4j.1 hg
    rcases (show j = 0 ∨ j = 1 by omega) with rfl | rfl
    · iterate 3 refine jw_u rfl ?_
      refine jw_u rfl ⟨vp_in_nI (show 0 < 2 by decide) (by decide), jrk_r (j := 106) rfl ?_⟩
      refine jw_u rfl ?_
      refine jtop e0 ?_
      refine jw_u rfl ⟨fun c => absurd n00 c, fun _ => ?_⟩
      iterate 2 refine jw_u rfl ?_
      exact ⟨fun h => (by cases h), h x hx (fun _ _ => rfl)⟩
    · iterate 3 refine jw_u rfl ?_
      refine jw_u rfl ⟨vp_in_nI (show 1 < 2 by decide) (by decide), jrk_r (j := 111) rfl ?_⟩
      refine jw_u rfl ?_
      refine jtop e0 ?_
      refine jw_u rfl ⟨fun c => absurd n00 c, fun _ => ?_⟩
      iterate 2 refine jw_u rfl ?_
      exact ⟨fun h => (by cases h), h x hx (fun _ _ => rfl)⟩
  | some Ss =>
    obtain ⟨S, s⟩ := Ss
    have fin := fin S s hg
    obtain ⟨q1, q2, q3⟩ := r4j.2 S s hg
    rcases (show j = 0 ∨ j = 1 by omega) with rfl | rfl
    · iterate 3 refine jw_u rfl ?_
      refine jw_u rfl ⟨vp_in_nI (show 0 < 2 by decide) (by decide), jrk_r (j := 106) rfl ?_⟩
      refine jw_u rfl ?_
      refine jtop q1 ?_
      refine jw_u rfl ⟨fun _ => ?_, fun c => absurd c n10⟩
      iterate 5 refine jw_u rfl ?_
      refine jw_u rfl ⟨vp_in_nI (show 0 < 2 by decide) (by decide), jrk_r (j := 106) rfl ?_⟩
      iterate 2 refine jw_u rfl ?_
      refine c_takeS stI_15 stI_107 ?_
      iterate 4 refine jw_u rfl ?_
      refine jw_u rfl ⟨vp_in_nI (show 0 < 2 by decide) (by decide), jrk_r (j := 106) rfl ?_⟩
      refine jw_u rfl ?_
      refine jtop (v' := nI s) (show cpS x 15 107 106 2 = nI s by rw [cpS_f (by omega)]; exact q3) ?_
      refine jw_u rfl ⟨fun h => (by cases h), ?_⟩
      iterate 3 refine jw_u rfl ?_
      refine c_forget ?_
      iterate 2 refine jw_u rfl ?_
      exact ⟨fun h => (by cases h), fin⟩
    · iterate 3 refine jw_u rfl ?_
      refine jw_u rfl ⟨vp_in_nI (show 1 < 2 by decide) (by decide), jrk_r (j := 111) rfl ?_⟩
      refine jw_u rfl ?_
      refine jtop q1 ?_
      refine jw_u rfl ⟨fun _ => ?_, fun c => absurd c n10⟩
      iterate 5 refine jw_u rfl ?_
      refine jw_u rfl ⟨vp_in_nI (show 1 < 2 by decide) (by decide), jrk_r (j := 111) rfl ?_⟩
      iterate 2 refine jw_u rfl ?_
      refine c_takeS stI_15 stI_112 ?_
      iterate 4 refine jw_u rfl ?_
      refine jw_u rfl ⟨vp_in_nI (show 1 < 2 by decide) (by decide), jrk_r (j := 111) rfl ?_⟩
      refine jw_u rfl ?_
      refine jtop (v' := nI s) (show cpS x 15 112 111 2 = nI s by rw [cpS_f (by omega)]; exact q3) ?_
      refine jw_u rfl ⟨fun h => (by cases h), ?_⟩
      iterate 3 refine jw_u rfl ?_
      refine c_forget ?_
      iterate 2 refine jw_u rfl ?_
      exact ⟨fun h => (by cases h), fin⟩
end CG
end
section
/-! THE CLASS: drift -/
section CI
variable {d : Nat} {x : jM} {Q : Option Value → jM → Prop} {z : aX}
theorem C_drift {m : Int32} (hx : RX z x) (hw : wX z) (h : ∀ x', RX (fDrift z m).2 x' → (∀ i, 121 ≤ i → x' i = x i) → Q (some (.int (fDrift z m).1)) x') : jo (d + 4) 35 [.ref 0, .int m] x Q := by
  obtain ⟨r1, r2, ⟨nx, r3⟩, r4, r5, r6, r7, r8⟩ := id hx
  obtain ⟨w1, w2, -, -, -, -, w7, -⟩ := id hw
  have b3 := w1.2.2.1
  refine jo_i rfl rfl (Nat.le_of_ble_eq_true rfl) ?_
  iterate 2 refine jw_u rfl ?_
  have out : ¬ (nI 1 ≤ m ∧ m ≤ nI 60) → jw (d + 3) kX6_drift Q 6 [some (.ref 0), some (.int m), none, none] [] x := by
    intro hm
    rw [show fDrift z m = (kO, z) by unfold fDrift; rw [if_neg hm]] at h
    iterate 2 refine jw_u rfl ?_
    exact ⟨fun h => (by cases h), h x hx (fun _ _ => rfl)⟩
  refine jw_u rfl ⟨fun (c : m < nI 1) => out (fun hc => absurd hc.1 (by simpa using c)), fun (c : ¬ m < nI 1) => ?_⟩
  iterate 2 refine jw_u rfl ?_
  refine jw_u rfl ⟨fun (c' : m ≤ nI 60) => ?_, fun (c' : ¬ m ≤ nI 60) => out (fun hc => c' hc.2)⟩
  have hm : nI 1 ≤ m ∧ m ≤ nI 60 := ⟨by simpa using c, c'⟩
  obtain ⟨j, hj, rfl⟩ := nI_of2 (n := 60) (M := nI 60) (by decide) (fun hc => c (Int32.lt_trans hc (by decide))) c'
  iterate 3 refine jw_u rfl ?_
  refine jtop r1.1 ?_
  refine jw_u rfl ⟨fun (c1 : ¬ nI (cT (gC z)) = 0) => ?_, fun (c1 : nI (cT (gC z)) = 0) => ?_⟩
  rotate_left
  · rw [show fDrift z (nI j) = (kX, z) by unfold fDrift; rw [if_pos hm, if_neg (fun e => by rw [e] at c1; exact n10 c1)]] at h
    iterate 2 refine jw_u rfl ?_
    exact ⟨fun h => (by cases h), h x hx (fun _ _ => rfl)⟩
  have hT : cT (gC z) = 1 := by
    have := w1.1
    rcases (show cT (gC z) = 0 ∨ cT (gC z) = 1 by omega) with e | e
    · rw [e] at c1
      exact absurd n00 c1
    · exact e
  rw [show fDrift z (nI j) = (nI (cA (fun p => (drR z j).2 p != sH (gS z) p) (cN (gC z))), drZ z (drR z j)) by unfold fDrift; rw [if_pos hm, if_pos hT, nI_clamp (by omega)]] at h
  iterate 5 refine jw_u rfl ?_
  refine c_push b3 r3 r2 w2 (fun x1 f1 f2 => ?_)
  have hx1 : RX (zPush z) x1 := RX_h f1 f2 hx
  have q1 := hx1.1
  have q2 := hx1.2.1
  have q6 : x1 0 8 = nI (gD z) := hx1.2.2.2.2.2.1
  iterate 5 refine jw_u rfl ?_
  refine c_takeS stI_19 stI_15 ?_
  have hX := xS_cp (x := x1) (o := 19) (s := 15) (n := cN (gC z)) (S := gS z) (Or.inr (by decide)) b3 w2.2.1 q2
  have fr : ∀ k, k < 19 ∨ 22 < k → cpS x1 19 15 k = x1 k := fun k hk => cpS_f (by omega)
  generalize cpS x1 19 15 = x2 at hX fr ⊢
  have hT20 : ∀ k, k < cN (gC z) → x2 20 k = nI (sH (gS z) k) := hX.1
  have tail : ∀ x3 g, (∀ i, i ≠ 0 → i ≠ 16 → x3 i = x2 i) → (∀ k, k ≠ 8 → x3 0 k = x2 0 k) → x3 0 8 = nI (drR z j).1 → (∀ k, k < cN (gC z) → x3 16 k = nI ((drR z j).2 k)) → (∀ k, k < cN (gC z) → (drR z j).2 k < 1000) → jw (d + 3) kX6_drift Q 37 [some (.ref 0), some (.int (nI j)), g, none] [] x3 := by
    intro x3 g t1 t2 t3 t4 t5
    have e3 : x3 11 2 = nI (cN (gC z)) := by rw [t1 11 (by decide) (by decide), fr 11 (by omega)]; exact q1.2.2.1
    have loop : ∀ p, p ≤ cN (gC z) → jw (d + 3) kX6_drift Q 41 [some (.ref 0), some (.int (nI j)), some (.int (nI (cA (fun p => (drR z j).2 p != sH (gS z) p) p))), some (.int (nI p))] [] x3 := by
      refine dn _ (cN (gC z)) ?_ (fun p hp ih => ?_)
      · iterate 4 refine jw_u rfl ?_
        refine jw_u rfl ⟨fun _ => ?_, fun (c' : ¬ x3 11 2 ≤ nI (cN (gC z))) => absurd (by rw [e3]; exact Int32.le_refl _) c'⟩
        iterate 2 refine jw_u rfl ?_
        have fq : ∀ i, i ≠ 0 → (i < 16 ∨ i = 17 ∨ i = 18 ∨ 22 < i) → x3 i = x1 i := fun i g1 g2 => by rw [t1 i g1 (by omega), fr i (by omega)]
        obtain ⟨a1, a2, ⟨ny, a3⟩, a4, a5, a6, a7, a8⟩ := hx1
        refine ⟨fun h => (by cases h), h x3 ⟨xC_f (fun i g1 g2 => fq i (by omega) (by omega)) a1, ⟨t4, ?_, fun k hk => ?_, fun k hk => ?_, ?_⟩, ⟨ny, xH_f (fun i g1 g2 => fq i (by omega) (by omega)) a3⟩, xI_f (fun i g1 g2 => fq i (by omega) (by omega)) a4, xN_f (fun i g1 g2 => fq i (by omega) (by omega)) a5, t3, ?_, ?_⟩ (fun i hi => by rw [fq i (by omega) (by omega), f1 i (by omega)])⟩
        · rw [fq 15 (by decide) (by omega)]; exact a2.2.1
        · rw [fq 17 (by decide) (by omega)]; exact a2.2.2.1 k hk
        · rw [fq 18 (by decide) (by omega)]; exact a2.2.2.2.1 k hk
        · rw [fq 15 (by decide) (by omega)]; exact a2.2.2.2.2
        · rw [t2 9 (by decide), fr 0 (by omega)]; exact a7
        · exact ⟨by rw [fq 1 (by decide) (by omega)]; exact a8.1, fun k hk => by rw [fq 2 (by decide) (by omega)]; exact a8.2 k hk⟩
      · have b4 := t5 p hp
        have b5 := w2.1 p hp
        have e20 : x3 20 p = nI (sH (gS z) p) := by rw [t1 20 (by decide) (by decide)]; exact hT20 p hp
        iterate 4 refine jw_u rfl ?_
        refine jw_u rfl ⟨fun (c' : x3 11 2 ≤ nI p) => absurd c' (by rw [e3]; exact nI_ge hp (by omega)), fun _ => ?_⟩
        iterate 4 refine jw_u rfl ?_
        refine jw_u rfl (jaN (show p < 8 by omega) (by decide) (t4 p hp) ?_)
        iterate 4 refine jw_u rfl ?_
        refine jw_u rfl (jaN (show p < 8 by omega) (by decide) e20 ?_)
        refine jw_u rfl ⟨fun (c' : nI ((drR z j).2 p) = nI (sH (gS z) p)) => ?_, fun (c' : ¬ nI ((drR z j).2 p) = nI (sH (gS z) p)) => ?_⟩
        · rw [nI_eq (by omega) (by omega)] at c'
          iterate 2 refine jw_u rfl ?_
          rw [nI_s p, cA, if_neg (by simp [c'])] at ih
          exact ih
        · rw [nI_eq (by omega) (by omega)] at c'
          iterate 3 refine jw_u rfl ?_
          rw [nI_s p, cA, if_pos (by simp [c']), nI_s] at ih
          exact ih
    iterate 4 refine jw_u rfl ?_
    exact loop 0 (Nat.zero_le _)
  iterate 3 refine jw_u rfl ?_
  refine jtop (v' := nI (cN (gC z))) (by rw [fr 11 (by omega)]; exact q1.2.2.1) ?_
  refine jw_u rfl ⟨fun (c2 : nI (cN (gC z)) ≤ 0) => ?_, fun (c2 : ¬ nI (cN (gC z)) ≤ 0) => ?_⟩
  · have e0 : cN (gC z) = 0 := by
      rw [← n00, nI_leI (by omega) (by decide)] at c2
      omega
    have er : drR z j = (gD z, sH (gS z)) := by unfold drR; rw [if_neg (by omega)]
    refine tail x2 none (fun _ _ _ => rfl) (fun _ _ => rfl) (by rw [er, fr 0 (by omega)]; exact q6) (fun k hk => ?_) (fun k hk => ?_)
    · rw [e0] at hk; exact absurd hk (Nat.not_lt_zero _)
    · rw [e0] at hk; exact absurd hk (Nat.not_lt_zero _)
  · have h0 : 0 < cN (gC z) := by
      rw [← n00, nI_leI (by omega) (by decide)] at c2
      omega
    have er : drR z j = skN (cN (gC z)) j (gD z, sH (gS z)) := by unfold drR; rw [if_pos h0]
    have bj := skN_lt h0 j (gD z, sH (gS z)) w7 w2.1
    rw [← er] at bj
    have loop : ∀ i, i ≤ j → ∀ x3 s f, (∀ i, i ≠ 0 → i ≠ 16 → x3 i = x2 i) → (∀ k, k ≠ 8 → x3 0 k = x2 0 k) → x3 0 8 = nI s → (∀ k, k < cN (gC z) → x3 16 k = nI (f k)) → s < 2147483648 → (∀ k, k < cN (gC z) → f k < 1000) → skN (cN (gC z)) (j - i) (s, f) = drR z j → jw (d + 3) kX6_drift Q 30 [some (.ref 0), some (.int (nI j)), some (.int (nI i)), none] [] x3 := by
      refine dn _ j (fun x3 s f t1 t2 t3 t4 t5 t6 t7 => ?_) (fun i hi ih x3 s f t1 t2 t3 t4 t5 t6 t7 => ?_)
      · iterate 2 refine jw_u rfl ?_
        refine jw_u rfl ⟨fun _ => ?_, fun (c' : ¬ nI j ≤ nI j) => absurd (Int32.le_refl _) c'⟩
        rw [Nat.sub_self, skN_0] at t7
        refine tail x3 _ t1 t2 (by rw [← t7]; exact t3) (fun k hk => by rw [← t7]; exact t4 k hk) bj.2
      · have e3 : x3 11 2 = nI (cN (gC z)) := by rw [t1 11 (by decide) (by decide), fr 11 (by omega)]; exact q1.2.2.1
        iterate 2 refine jw_u rfl ?_
        refine jw_u rfl ⟨fun (c' : nI j ≤ nI i) => absurd c' (nI_ge hi (by omega)), fun _ => ?_⟩
        iterate 2 refine jw_u rfl ?_
        refine c_shakeOnce e3 b3 h0 t3 t5 t4 t6 (fun x4 v1 v2 v3 v4 => ?_)
        iterate 2 refine jw_u rfl ?_
        have bs := s1k_lt (s := s) h0 t6
        have := ih x4 (s1k s (cN (gC z)) f).1 (s1k s (cN (gC z)) f).2 (fun i g1 g2 => (v1 i g1 g2).trans (t1 i g1 g2)) (fun k hk => (v2 k hk).trans (t2 k hk)) v3 v4 bs.1 bs.2 (by rw [← t7, show j - i = (j - (i + 1)) + 1 by omega, skN_s])
        rw [nI_s i] at this
        exact this
    iterate 2 refine jw_u rfl ?_
    refine loop 0 (Nat.zero_le _) x2 (gD z) (sH (gS z)) (fun _ _ _ => rfl) (fun _ _ => rfl) (by rw [fr 0 (by omega)]; exact q6) (fun k hk => by rw [fr 16 (by omega)]; exact q2.1 k hk) w7 w2.1 er.symm
end CI
end
section
/-! TEXTS: how they are read, as numbers -/
def rnF (P : Nat → Bool) : Nat → Nat → Nat
  | 0, k => k
  | f + 1, k => if P k = true then rnF P f (k + 1) else k
/-- the first place from k on, before n, where P is not -/
def rn (P : Nat → Bool) (n k : Nat) : Nat := rnF P (n - k) k
theorem rn_s {P : Nat → Bool} {n k : Nat} (h : k < n) (hp : P k = true) : rn P n k = rn P n (k + 1) := by
  unfold rn
  rw [show n - k = (n - (k + 1)) + 1 by omega, rnF, if_pos hp]
theorem rn_e {P : Nat → Bool} {n k : Nat} (h : ¬ (k < n ∧ P k = true)) : rn P n k = k := by
  unfold rn
  by_cases hk : k < n
  · rw [show n - k = (n - (k + 1)) + 1 by omega, rnF, if_neg (fun hp => h ⟨hk, hp⟩)]
  · rw [show n - k = 0 by omega, rnF]
theorem rn_le {P : Nat → Bool} {n k : Nat} (h : k ≤ n) : k ≤ rn P n k ∧ rn P n k ≤ n := by
  have key : ∀ f k, k ≤ rnF P f k ∧ rnF P f k ≤ k + f := by
    intro f
    induction f with
    | zero => intro k; exact ⟨Nat.le_refl _, Nat.le_refl _⟩
    | succ f ih =>
      intro k
      have := ih (k + 1)
      rw [rnF]
      split <;> omega
  have := key (n - k) k
  unfold rn
  omega
abbrev tBl (u : aN) : Nat → Bool := fun k => u.2 k == 32
abbrev tFg (u : aN) : Nat → Bool := fun k => decide (48 ≤ u.2 k) && decide (u.2 k ≤ 57)
/-- past the blanks; past the figures; the worth of the first three figures -/
def sk (u : aN) (k : Nat) : Nat := rn (tBl u) u.1 k
def fe (u : aN) (k : Nat) : Nat := rn (tFg u) u.1 k
def vl (u : aN) (s : Nat) : Nat → Nat
  | 0 => 0
  | i + 1 => if i < 3 then 10 * vl u s i + (u.2 (s + i) - 48) % 10 else vl u s i
theorem vl_lt (u : aN) (s : Nat) : ∀ i, vl u s i < 10 ^ (min i 3)
  | 0 => (by decide : 0 < 1)
  | i + 1 => by
    have h := vl_lt u s i
    rw [vl]
    split
    · next hi =>
      rw [Nat.min_eq_left (by omega)] at h
      rw [Nat.min_eq_left (by omega), Nat.pow_succ]
      generalize 10 ^ i = t at *
      omega
    · next hi =>
      rw [Nat.min_eq_right (by omega)] at h
      rw [Nat.min_eq_right (by omega)]
      exact h
theorem vl_k (u : aN) (s i : Nat) : vl u s i < 1000 := Nat.lt_of_lt_of_le (vl_lt u s i) (Nat.le_trans (Nat.pow_le_pow_right (by decide) (Nat.min_le_right i 3)) (by decide))
theorem sk_s {u : aN} {k : Nat} (h : k < u.1) (e : u.2 k = 32) : sk u k = sk u (k + 1) := rn_s h (by simp [tBl, e])
theorem sk_e {u : aN} {k : Nat} (h : ¬ (k < u.1 ∧ u.2 k = 32)) : sk u k = k := rn_e (fun hc => h ⟨hc.1, by simpa [tBl] using hc.2⟩)
theorem sk_le {u : aN} {k : Nat} (h : k ≤ u.1) : k ≤ sk u k ∧ sk u k ≤ u.1 := rn_le h
theorem fe_s {u : aN} {k : Nat} (h : k < u.1) (e : 48 ≤ u.2 k ∧ u.2 k ≤ 57) : fe u k = fe u (k + 1) := rn_s h (by simp [tFg, e.1, e.2])
theorem fe_e {u : aN} {k : Nat} (h : ¬ (k < u.1 ∧ 48 ≤ u.2 k ∧ u.2 k ≤ 57)) : fe u k = k := rn_e (fun hc => h ⟨hc.1, by simpa [tFg] using hc.2⟩)
theorem fe_le {u : aN} {k : Nat} (h : k ≤ u.1) : k ≤ fe u k ∧ fe u k ≤ u.1 := rn_le h
/-- how reading stands: a fault and its place, or where one is -/
abbrev aR : Type := (Nat × Nat) ⊕ Nat
def nmS (u : aN) (hi : Int) : aR → aR × Nat
  | .inl q => (.inl q, 0)
  | .inr k => if fe u (sk u k) = sk u k then (.inl (1, sk u k), 0) else if 3 < fe u (sk u k) - sk u k ∨ hi < (vl u (sk u k) (fe u (sk u k) - sk u k) : Int) then (.inl (2, sk u k), 0) else (.inr (fe u (sk u k)), vl u (sk u k) (fe u (sk u k) - sk u k))
def enS (u : aN) : aR → aR
  | .inl q => .inl q
  | .inr k => if sk u k < u.1 ∧ u.2 (sk u k) = 59 then .inr (sk u k + 1) else .inl (1, sk u k)
def clX (u : aN) (k : Nat) (C : aC) (S : aS) : aR × aC × aS :=
  if cT C = 1 then (.inl (3, k), C, S) else (enS u (nmS u 999 (.inr (k + 1))).1, (1, (nmS u 999 (.inr (k + 1))).2, cN C, cC C, cSl C, cDr C, cSq C), S)
def clP (u : aN) (k : Nat) (C : aC) (S : aS) : aR × aC × aS :=
  if cN C < 8 then (enS u (nmS u 2 (nmS u 3 (nmS u 999 (.inr (k + 1))).1).1).1,
    (cT C, cG C, cN C + 1, cC C, upN (cSl C) (cN C) (nmS u 3 (nmS u 999 (.inr (k + 1))).1).2, upN (cDr C) (cN C) (nmS u 2 (nmS u 3 (nmS u 999 (.inr (k + 1))).1).1).2, cSq C),
    (upN (sH S) (cN C) (nmS u 999 (.inr (k + 1))).2, sP S, sM S, sN S, sY S)) else (.inl (3, k), C, S)
def clS (u : aN) (k : Nat) (C : aC) (S : aS) : aR × aC × aS :=
  if sP S < 8 then (enS u (nmS u 999 (nmS u ((cN C : Int) - 1) (.inr (k + 1))).1).1, C,
    (sH S, sP S + 1, upN (sM S) (sP S) (nmS u 999 (nmS u ((cN C : Int) - 1) (.inr (k + 1))).1).2, upN (sN S) (sP S) (nmS u ((cN C : Int) - 1) (.inr (k + 1))).2, sY S)) else (.inl (3, k), C, S)
def clC (u : aN) (k : Nat) (C : aC) (S : aS) : aR × aC × aS :=
  if cC C < 4 then (enS u (nmS u 999 (.inr (k + 1))).1, (cT C, cG C, cN C, cC C + 1, cSl C, cDr C, upN (cSq C) (cC C) (nmS u 999 (.inr (k + 1))).2), S) else (.inl (3, k), C, S)
/-- the clause whose word stands at k -/
def cl (u : aN) (k : Nat) (C : aC) (S : aS) : aR × aC × aS :=
  if cT C = 0 ∧ u.2 k ≠ 120 then (.inl (1, k), C, S) else if u.2 k = 120 then clX u k C S else if u.2 k = 112 then clP u k C S else if u.2 k = 115 then clS u k C S else if u.2 k = 99 then clC u k C S else (.inl (1, k), C, S)
def pa (u : aN) : Nat → aR × aC × aS → aR × aC × aS
  | 0, r => r
  | f + 1, r => match r.1 with
    | .inl _ => r
    | .inr k => if sk u k < u.1 then pa u f (cl u (sk u k) r.2.1 r.2.2) else (.inr (sk u k), r.2)
def C0 : aC := (0, 0, 0, 0, fun _ => 0, fun _ => 0, fun _ => 0)
def S0 : aS := (fun _ => 0, 0, fun _ => 0, fun _ => 0, 0)
def fClan (z : aX) : Int32 × aX := match pa (gT z) 240 (.inr 0, C0, S0) with
  | (.inl q, _, _) => (jc (-10) - nI q.1, (gC z, gS z, gH z, gI z, gN z, gB z, gD z, nI q.2, (0, (gT z).2)))
  | (.inr _, C, S) => (nI (cN C), (C, S, [], fun _ => none, (0, (gN z).2), (0, (gB z).2), gD z, -1, (0, (gT z).2)))
/-- a status within the text -/
def wR (u : aN) : aR → Prop
  | .inl q => 1 ≤ q.1 ∧ q.1 ≤ 3 ∧ q.2 ≤ u.1
  | .inr k => k ≤ u.1
theorem nm_w {u : aN} {hi : Int} {s : aR} (h : wR u s) : wR u (nmS u hi s).1 ∧ (nmS u hi s).2 < 1000 := by
  cases s with
  | inl q => exact ⟨h, Nat.zero_lt_succ _⟩
  | inr k =>
    have h1 := sk_le (u := u) (k := k) h
    have h2 := fe_le h1.2
    unfold nmS
    dsimp only
    split
    · exact ⟨⟨Nat.le_refl 1, (by decide : 1 ≤ 3), h1.2⟩, Nat.zero_lt_succ _⟩
    · split
      · exact ⟨⟨(by decide : 1 ≤ 2), (by decide : 2 ≤ 3), h1.2⟩, Nat.zero_lt_succ _⟩
      · exact ⟨h2.2, vl_k _ _ _⟩
theorem en_w {u : aN} {s : aR} (h : wR u s) : wR u (enS u s) := by
  cases s with
  | inl q => exact h
  | inr k =>
    have h1 := sk_le (u := u) (k := k) h
    unfold enS
    dsimp only
    split
    · next hc => exact hc.1
    · exact ⟨Nat.le_refl 1, (by decide : 1 ≤ 3), h1.2⟩
theorem nm_rr {u : aN} {hi : Int} {s : aR} {k : Nat} (h : (nmS u hi s).1 = .inr k) : ∃ k0, s = .inr k0 ∧ (k0 ≤ u.1 → k0 ≤ k) ∧ ((nmS u hi s).2 : Int) ≤ hi := by
  cases s with
  | inl q => cases h
  | inr k0 =>
    refine ⟨k0, rfl, ?_⟩
    unfold nmS at h ⊢
    dsimp only at h ⊢
    split at h
    · cases h
    · next h1 =>
      split at h
      · cases h
      · next h2 =>
        rw [if_neg h1, if_neg h2]
        have e : fe u (sk u k0) = k := by injection h
        refine ⟨fun hk => ?_, ?_⟩
        · have g1 := sk_le (u := u) hk
          have g2 := fe_le g1.2
          omega
        · show (vl u (sk u k0) (fe u (sk u k0) - sk u k0) : Int) ≤ hi
          omega
theorem en_rr {u : aN} {s : aR} {k : Nat} (h : enS u s = .inr k) : ∃ k0, s = .inr k0 ∧ (k0 ≤ u.1 → k0 < k) := by
  cases s with
  | inl q => cases h
  | inr k0 =>
    refine ⟨k0, rfl, fun hk => ?_⟩
    have g1 := sk_le (u := u) hk
    unfold enS at h
    dsimp only at h
    split at h
    · have e : sk u k0 + 1 = k := by injection h
      omega
    · cases h
/-- what a clause leaves -/
def wD (u : aN) (r : aR × aC × aS) : Prop := wR u r.1 ∧ (∀ k, r.1 = .inr k → wC r.2.1 ∧ wS (cN r.2.1) r.2.2)
theorem cl_w {u : aN} {k : Nat} {C : aC} {S : aS} (hk : k < u.1) (hC : wC C) (hS : wS (cN C) S) : wD u (cl u k C S) := by
  have f1 : wD u (.inl (1, k), C, S) := ⟨⟨Nat.le_refl 1, (by decide : 1 ≤ 3), Nat.le_of_lt hk⟩, fun _ e => by cases e⟩
  have f3 : wD u (.inl (3, k), C, S) := ⟨⟨(by decide : 1 ≤ 3), (by decide : 3 ≤ 3), Nat.le_of_lt hk⟩, fun _ e => by cases e⟩
  have g0 : wR u (.inr (k + 1)) := hk
  obtain ⟨c1, c2, c3, c4, c5, c6, c7⟩ := id hC
  obtain ⟨s1, s2, s3, s4, s5⟩ := id hS
  unfold cl
  split
  · exact f1
  split
  · unfold clX
    split
    · exact f3
    · have g1 := nm_w (hi := 999) g0
      exact ⟨en_w g1.1, fun k' e => ⟨⟨Nat.le_refl 1, g1.2, c3, c4, c5, c6, c7⟩, hS⟩⟩
  split
  · unfold clP
    split
    · next hn =>
      have g1 := nm_w (hi := 999) g0
      have g2 := nm_w (hi := 3) g1.1
      have g3 := nm_w (hi := 2) g2.1
      refine ⟨en_w g3.1, fun k' e => ?_⟩
      obtain ⟨k3, e3, -⟩ := en_rr e
      obtain ⟨k2, e2, -, v3⟩ := nm_rr e3
      obtain ⟨k1, e1, -, v2⟩ := nm_rr e2
      refine ⟨⟨c1, c2, hn, c4, fun j hj => ?_, fun j hj => ?_, c7⟩, ⟨fun j hj => ?_, s2, s3, fun j hj => ?_, s5⟩⟩
      · have hj : j < cN C + 1 := hj
        by_cases e : j = cN C
        · show upN (cSl C) (cN C) _ j ≤ 3
          rw [e, upN_s]
          omega
        · show upN (cSl C) (cN C) _ j ≤ 3
          rw [upN_o e]
          exact c5 j (by omega)
      · have hj : j < cN C + 1 := hj
        by_cases e : j = cN C
        · show upN (cDr C) (cN C) _ j ≤ 2
          rw [e, upN_s]
          omega
        · show upN (cDr C) (cN C) _ j ≤ 2
          rw [upN_o e]
          exact c6 j (by omega)
      · have hj : j < cN C + 1 := hj
        by_cases e : j = cN C
        · show upN (sH S) (cN C) _ j < 1000
          rw [e, upN_s]
          exact g1.2
        · show upN (sH S) (cN C) _ j < 1000
          rw [upN_o e]
          exact s1 j (by omega)
      · exact Nat.lt_succ_of_lt (s4 j hj)
    · exact f3
  split
  · unfold clS
    split
    · next hn =>
      have g1 := nm_w (hi := (cN C : Int) - 1) g0
      have g2 := nm_w (hi := 999) g1.1
      refine ⟨en_w g2.1, fun k' e => ?_⟩
      obtain ⟨k3, e3, -⟩ := en_rr e
      obtain ⟨k2, e2, -, v3⟩ := nm_rr e3
      obtain ⟨k1, e1, -, v2⟩ := nm_rr e2
      refine ⟨hC, ⟨s1, hn, fun j hj => ?_, fun j hj => ?_, s5⟩⟩
      · have hj : j < sP S + 1 := hj
        by_cases e : j = sP S
        · show upN (sM S) (sP S) _ j < 1000
          rw [e, upN_s]
          exact g2.2
        · show upN (sM S) (sP S) _ j < 1000
          rw [upN_o e]
          exact s3 j (by show j < sP S; omega)
      · have hj : j < sP S + 1 := hj
        by_cases e : j = sP S
        · show upN (sN S) (sP S) _ j < cN C
          rw [e, upN_s]
          omega
        · show upN (sN S) (sP S) _ j < cN C
          rw [upN_o e]
          exact s4 j (by show j < sP S; omega)
    · exact f3
  split
  · unfold clC
    split
    · next hn =>
      have g1 := nm_w (hi := 999) g0
      refine ⟨en_w g1.1, fun k' e => ⟨⟨c1, c2, c3, hn, c5, c6, fun j hj => ?_⟩, hS⟩⟩
      have hj : j < cC C + 1 := hj
      by_cases e : j = cC C
      · show upN (cSq C) (cC C) _ j < 1000
        rw [e, upN_s]
        exact g1.2
      · show upN (cSq C) (cC C) _ j < 1000
        rw [upN_o e]
        exact c7 j (by omega)
    · exact f3
  · exact f1
theorem cl_r {u : aN} {k k' : Nat} {C : aC} {S : aS} (hk : k < u.1) (h : (cl u k C S).1 = .inr k') : k < k' := by
  have g0 : wR u (.inr (k + 1)) := hk
  have g9 : ∀ s : aR, wR u s → (∀ k0, s = .inr k0 → k + 1 ≤ k0) → ∀ hi, wR u (nmS u hi s).1 ∧ (∀ k0, (nmS u hi s).1 = .inr k0 → k + 1 ≤ k0) := by
    intro s hs hp hi
    refine ⟨(nm_w hs).1, fun k0 e => ?_⟩
    obtain ⟨k1, e1, h1, -⟩ := nm_rr e
    subst e1
    have := hp k1 rfl
    have := h1 hs
    omega
  have g8 : ∀ s : aR, wR u s → (∀ k0, s = .inr k0 → k + 1 ≤ k0) → ∀ k0, enS u s = .inr k0 → k < k0 := by
    intro s hs hp k0 e
    obtain ⟨k1, e1, h1⟩ := en_rr e
    subst e1
    have := hp k1 rfl
    have := h1 hs
    omega
  have p0 : ∀ k0, (.inr (k + 1) : aR) = .inr k0 → k + 1 ≤ k0 := fun k0 e => by injection e with e; omega
  unfold cl at h
  split at h
  · cases h
  split at h
  · unfold clX at h
    split at h
    · cases h
    · have g1 := g9 _ g0 p0 999
      exact g8 _ g1.1 g1.2 _ h
  split at h
  · unfold clP at h
    split at h
    · have g1 := g9 _ g0 p0 999
      have g2 := g9 _ g1.1 g1.2 3
      have g3 := g9 _ g2.1 g2.2 2
      exact g8 _ g3.1 g3.2 _ h
    · cases h
  split at h
  · unfold clS at h
    split at h
    · have g1 := g9 _ g0 p0 ((cN C : Int) - 1)
      have g2 := g9 _ g1.1 g1.2 999
      exact g8 _ g2.1 g2.2 _ h
    · cases h
  split at h
  · unfold clC at h
    split at h
    · have g1 := g9 _ g0 p0 999
      exact g8 _ g1.1 g1.2 _ h
    · cases h
  · cases h
theorem pa_w {u : aN} : ∀ (f : Nat) (r : aR × aC × aS), wD u r → wD u (pa u f r)
  | 0, r, h => h
  | f + 1, r, h => by
    obtain ⟨s, C, S⟩ := r
    rw [pa]
    cases s with
    | inl q => exact h
    | inr k =>
      dsimp only
      have hw := h.2 k rfl
      have hk : k ≤ u.1 := h.1
      split
      · next hs => exact pa_w f _ (cl_w hs hw.1 hw.2)
      · exact ⟨(sk_le hk).2, fun _ _ => hw⟩
end
section
/-! THE CLASS: the reader, its small steps -/
theorem ju_ju (x : jM) (o k : Nat) (a b : Int32) : ju (ju x o k a) o k b = ju x o k b := by
  funext i j
  by_cases e : i = o
  · subst e
    by_cases e2 : j = k
    · subst e2; rw [ju_s, ju_s]
    · rw [ju_k e2, ju_k e2, ju_k e2]
  · rw [ju_o e, ju_o e, ju_o e]
def le (u : aN) (k : Nat) : Int32 := if k < u.1 then nI (u.2 k) else -1
def bT (u : aN) : Prop := u.1 ≤ 240 ∧ ∀ k, k < u.1 → u.2 k ≤ 255
theorem xT_f {x x' : jM} {u : aN} (h1 : x' 1 1 = x 1 1) (h2 : x' 2 = x 2) (h : xT x u) : xT x' u := ⟨h1.trans h.1, fun k hk => by rw [h2]; exact h.2 k hk⟩
def rQ (x : jM) (u : aN) : aR → Prop
  | .inl q => x 1 5 = nI q.1 ∧ x 1 6 = nI q.2 ∧ 1 ≤ q.1 ∧ q.1 ≤ 3
  | .inr k => x 1 5 = nI 0 ∧ x 1 4 = nI k ∧ k ≤ u.1
theorem rQ_f {x x' : jM} {u : aN} {s : aR} (h : x' 1 = x 1) (hq : rQ x u s) : rQ x' u s := by
  cases s with
  | inl q => exact ⟨by rw [h]; exact hq.1, by rw [h]; exact hq.2.1, hq.2.2⟩
  | inr k => exact ⟨by rw [h]; exact hq.1, by rw [h]; exact hq.2.1, hq.2.2⟩
def fR (x x' : jM) : Prop := (∀ i, i ≠ 1 → x' i = x i) ∧ x' 1 1 = x 1 1
theorem fR_t {x y w : jM} (h1 : fR x y) (h2 : fR y w) : fR x w := ⟨fun i hi => (h2.1 i hi).trans (h1.1 i hi), h2.2.trans h1.2⟩
section CJ
variable {d : Nat} {x : jM} {Q : Option Value → jM → Prop} {u : aN}
theorem c_letterHere {k : Nat} (hu : bT u) (ht : xT x u) (e : x 1 4 = nI k) (hk : k ≤ u.1) (h : Q (some (.int (le u k))) x) : jo (d + 1) 19 [.ref 1] x Q := by
  have b1 := hu.1
  refine jo_i rfl rfl (Nat.le_of_ble_eq_true rfl) ?_
  iterate 2 refine jw_u rfl ?_
  refine jtop e ?_
  refine jw_u rfl ⟨fun c => absurd c (nI_pos (by omega)), fun _ => ?_⟩
  iterate 4 refine jw_u rfl ?_
  unfold le at h
  refine jw_u rfl ⟨fun (c : x 1 1 ≤ x 1 4) => ?_, fun (c : ¬ x 1 1 ≤ x 1 4) => ?_⟩
  · rw [e, ht.1, nI_leI (by omega) (by omega)] at c
    rw [if_neg (by omega)] at h
    iterate 2 refine jw_u rfl ?_
    exact ⟨fun h => (by cases h), jret jm1 h⟩
  · rw [e, ht.1, nI_leI (by omega) (by omega)] at c
    rw [if_pos (by omega)] at h
    iterate 3 refine jw_u rfl ?_
    refine jw_u rfl ⟨fun (c2 : nI 240 ≤ x 1 4) => absurd c2 (by rw [e]; exact nI_ge (by omega) (by decide)), fun _ => ?_⟩
    iterate 4 refine jw_u rfl ?_
    refine jtop e ?_
    refine jw_u rfl (jaN (show k < 240 by omega) (by decide) (ht.2 k (by omega)) ?_)
    iterate 2 refine jw_u rfl ?_
    exact ⟨fun h => (by cases h), h⟩
theorem c_skipBlanks {k : Nat} (hu : bT u) (ht : xT x u) (e : x 1 4 = nI k) (hk : k ≤ u.1) (h : Q none (ju x 1 4 (nI (sk u k)))) : jo (d + 2) 18 [.ref 1] x Q := by
  have b1 := hu.1
  have loop : ∀ k, k ≤ u.1 → ∀ x, xT x u → x 1 4 = nI k → Q none (ju x 1 4 (nI (sk u k))) → jw (d + 1) kX4_skipBlanks Q 0 [some (.ref 1)] [] x := by
    refine dn _ u.1 (fun x ht e h => ?_) (fun k hk ih x ht e h => ?_)
    · rw [sk_e (by omega), ju_id e] at h
      iterate 4 refine jw_u rfl ?_
      refine jw_u rfl ⟨fun _ => ?_, fun (c : ¬ x 1 1 ≤ x 1 4) => absurd (by rw [e, ht.1]; exact Int32.le_refl _) c⟩
      refine jw_u rfl ?_
      exact h
    · have b2 := hu.2 k hk
      iterate 4 refine jw_u rfl ?_
      refine jw_u rfl ⟨fun (c : x 1 1 ≤ x 1 4) => absurd c (by rw [e, ht.1]; exact nI_ge hk (by omega)), fun _ => ?_⟩
      iterate 2 refine jw_u rfl ?_
      refine c_letterHere hu ht e (Nat.le_of_lt hk) ?_
      refine jtop (v' := nI (u.2 k)) (by unfold le; rw [if_pos hk]) ?_
      refine jw_u rfl ?_
      refine jw_u rfl ⟨fun (c : ¬ nI (u.2 k) = nI 32) => ?_, fun (c : nI (u.2 k) = nI 32) => ?_⟩
      · rw [nI_eq (by omega) (by decide)] at c
        rw [sk_e (fun hc => c hc.2), ju_id e] at h
        refine jw_u rfl ?_
        exact h
      · rw [nI_eq (by omega) (by decide)] at c
        rw [sk_s hk c] at h
        iterate 3 refine jw_u rfl ?_
        refine jtop e ?_
        iterate 2 refine jw_u rfl ?_
        refine jtop (nI_add k 1) ?_
        refine jw_u rfl ⟨fun h => (by cases h), ?_⟩
        refine jw_u rfl ?_
        exact ih (ju x 1 4 (nI (k + 1))) (xT_f (ju_k (by decide)) (ju_oo (by decide)) ht) (ju_s _ _ _ _) (by rw [ju_ju]; exact h)
  refine jo_i rfl rfl (Nat.le_of_ble_eq_true rfl) ?_
  exact loop k hk x ht e h
theorem c_isFigure {c : Nat} (hc : c ≤ 255) (h1 : 48 ≤ c ∧ c ≤ 57 → Q (some (.int (nI 1))) x) (h2 : ¬ (48 ≤ c ∧ c ≤ 57) → Q (some (.int (nI 0))) x) : jo (d + 1) 20 [.int (nI c)] x Q := by
  refine jo_i rfl rfl (Nat.le_of_ble_eq_true rfl) ?_
  iterate 2 refine jw_u rfl ?_
  refine jw_u rfl ⟨fun (c1 : nI c < nI 48) => ?_, fun (c1 : ¬ nI c < nI 48) => ?_⟩
  · rw [nI_ltI (by omega) (by decide)] at c1
    iterate 2 refine jw_u rfl ?_
    exact ⟨fun _ => Or.inl rfl, h2 (by omega)⟩
  · rw [nI_ltI (by omega) (by decide)] at c1
    iterate 2 refine jw_u rfl ?_
    refine jw_u rfl ⟨fun (c2 : nI 57 < nI c) => ?_, fun (c2 : ¬ nI 57 < nI c) => ?_⟩
    · rw [nI_ltI (by decide) (by omega)] at c2
      iterate 2 refine jw_u rfl ?_
      exact ⟨fun _ => Or.inl rfl, h2 (by omega)⟩
    · rw [nI_ltI (by decide) (by omega)] at c2
      iterate 3 refine jw_u rfl ?_
      exact ⟨fun _ => Or.inr rfl, h1 (by omega)⟩
theorem c_fail {a b : Int32} (h : Q none (ju (ju x 1 5 a) 1 6 b)) : jo (d + 1) 17 [.ref 1, .int a, .int b] x Q := by
  refine jo_i rfl rfl (Nat.le_of_ble_eq_true rfl) ?_
  iterate 2 refine jw_u rfl ?_
  refine jw_u rfl ⟨fun h => (by cases h), ?_⟩
  iterate 2 refine jw_u rfl ?_
  refine jw_u rfl ⟨fun h => (by cases h), ?_⟩
  refine jw_u rfl ?_
  exact h
theorem fR_f {a b c : Int32} : fR x (ju (ju (ju x 1 4 c) 1 5 a) 1 6 b) := ⟨fun i hi => by rw [ju_oo hi, ju_oo hi, ju_oo hi], by rw [ju_k (by decide), ju_k (by decide), ju_k (by decide)]⟩
theorem fR_4 {c : Int32} : fR x (ju x 1 4 c) := ⟨fun i hi => ju_oo hi, ju_k (by decide)⟩
theorem fR_T {x' : jM} (h : fR x x') (ht : xT x u) : xT x' u := xT_f h.2 (h.1 2 (by decide)) ht
theorem rQ_f5 {a b : Nat} {c : Int32} (h1 : 1 ≤ a) (h2 : a ≤ 3) : rQ (ju (ju (ju x 1 4 c) 1 5 (nI a)) 1 6 (nI b)) u (.inl (a, b)) := ⟨by rw [ju_k (by decide), ju_s], ju_s _ _ _ _, h1, h2⟩
set_option maxHeartbeats 1000000 in
theorem c_readNumber {hi : Int} {g : Int32} {s : aR} (hu : bT u) (hg : g.toInt = hi) (ht : xT x u) (hs : rQ x u s) (h : ∀ x', fR x x' → xT x' u → rQ x' u (nmS u hi s).1 → Q (some (.int (nI (nmS u hi s).2))) x') : jo (d + 3) 15 [.ref 1, .int g] x Q := by
  have b1 := hu.1
  refine jo_i rfl rfl (Nat.le_of_ble_eq_true rfl) ?_
  iterate 2 refine jw_u rfl ?_
  cases s with
  | inl q =>
    obtain ⟨s1, s2, s3, s4⟩ := id hs
    refine jtop s1 ?_
    refine jw_u rfl ⟨fun (c : nI q.1 = 0) => absurd c (nI_ne0 (by omega) (by omega)), fun _ => ?_⟩
    iterate 2 refine jw_u rfl ?_
    exact ⟨fun h => (by cases h), h x ⟨fun _ _ => rfl, rfl⟩ ht hs⟩
  | inr k =>
    obtain ⟨s1, s2, s3⟩ := id hs
    refine jtop s1 ?_
    refine jw_u rfl ⟨fun _ => ?_, fun c => absurd n00 c⟩
    iterate 2 refine jw_u rfl ?_
    refine c_skipBlanks hu ht s2 s3 ?_
    obtain ⟨l1, l2⟩ := sk_le (u := u) s3
    unfold nmS at h
    dsimp only at h
    generalize sk u k = s at h l1 l2 ⊢
    obtain ⟨m1, m2⟩ := fe_le l2
    have et : ∀ i : Nat, xT (ju x 1 4 (nI i)) u := fun i => fR_T fR_4 ht
    have ev := vl_k u s (fe u s - s)
    have bad2 : (3 < fe u s - s ∨ hi < (vl u s (fe u s - s) : Int)) → ¬ fe u s = s → jw (d + 2) kX4_readNumber Q 63 [some (.ref 1), some (.int g), some (.int (nI s)), some (.int (nI (vl u s (fe u s - s))))] [] (ju x 1 4 (nI (fe u s))) := by
      intro h2 h1
      rw [if_neg h1, if_pos h2] at h
      iterate 4 refine jw_u rfl ?_
      refine c_fail ?_
      iterate 2 refine jw_u rfl ?_
      exact ⟨fun h => (by cases h), h _ fR_f (fR_T fR_f ht) (rQ_f5 (a := 2) (b := s) (by decide) (by decide))⟩
    have fin : jw (d + 2) kX4_readNumber Q 43 [some (.ref 1), some (.int g), some (.int (nI s)), some (.int (nI (vl u s (fe u s - s))))] [] (ju x 1 4 (nI (fe u s))) := by
      iterate 2 refine jw_u rfl ?_
      refine jtop (ju_s _ _ _ _) ?_
      refine jw_u rfl ?_
      refine jw_u rfl ⟨fun (c : ¬ nI (fe u s) = nI s) => ?_, fun (c : nI (fe u s) = nI s) => ?_⟩
      · rw [nI_eq (by omega) (by omega)] at c
        iterate 2 refine jw_u rfl ?_
        refine jtop (ju_s _ _ _ _) ?_
        iterate 2 refine jw_u rfl ?_
        refine jtop (pk_sub m1) ?_
        refine jw_u rfl ?_
        refine jw_u rfl ⟨fun (c2 : nI 3 < nI (fe u s - s)) => ?_, fun (c2 : ¬ nI 3 < nI (fe u s - s)) => ?_⟩
        · rw [nI_ltI (by decide) (by omega)] at c2
          exact bad2 (Or.inl c2) c
        · rw [nI_ltI (by decide) (by omega)] at c2
          iterate 2 refine jw_u rfl ?_
          have eg : nI (vl u s (fe u s - s)) ≤ g ↔ (vl u s (fe u s - s) : Int) ≤ hi := by
            rw [Int32.le_iff_toInt_le, nI_toInt (by omega), hg]
          refine jw_u rfl ⟨fun (c3 : nI (vl u s (fe u s - s)) ≤ g) => ?_, fun (c3 : ¬ nI (vl u s (fe u s - s)) ≤ g) => ?_⟩
          · rw [eg] at c3
            rw [if_neg c, if_neg (by omega)] at h
            iterate 2 refine jw_u rfl ?_
            exact ⟨fun h => (by cases h), h _ fR_4 (et _) ⟨by rw [ju_k (by decide)]; exact s1, ju_s _ _ _ _, m2⟩⟩
          · rw [eg] at c3
            exact bad2 (Or.inr (by omega)) c
      · rw [nI_eq (by omega) (by omega)] at c
        rw [if_pos c] at h
        iterate 4 refine jw_u rfl ?_
        refine jtop (ju_s _ _ _ _) ?_
        refine jw_u rfl ?_
        refine c_fail ?_
        rw [c]
        iterate 2 refine jw_u rfl ?_
        exact ⟨fun h => (by cases h), h _ fR_f (fR_T fR_f ht) (rQ_f5 (a := 1) (b := s) (by decide) (by decide))⟩
    have loop : ∀ i, i ≤ u.1 → s ≤ i → fe u i = fe u s → jw (d + 2) kX4_readNumber Q 12 [some (.ref 1), some (.int g), some (.int (nI s)), some (.int (nI (vl u s (i - s))))] [] (ju x 1 4 (nI i)) := by
      refine dn _ u.1 (fun hi1 hi2 => ?_) (fun i hi ih hi1 hi2 => ?_)
      · rw [fe_e (by omega)] at hi2
        rw [← hi2] at fin
        have e1 := (et u.1).1
        iterate 4 refine jw_u rfl ?_
        refine jw_u rfl ⟨fun _ => fin, fun (c : ¬ ju x 1 4 (nI u.1) 1 1 ≤ ju x 1 4 (nI u.1) 1 4) => absurd (by rw [e1, ju_s]; exact Int32.le_refl _) c⟩
      · have e1 := (et i).1
        have b2 := hu.2 i hi
        have le_i : le u i = nI (u.2 i) := by unfold le; rw [if_pos hi]
        iterate 4 refine jw_u rfl ?_
        refine jw_u rfl ⟨fun (c : ju x 1 4 (nI i) 1 1 ≤ ju x 1 4 (nI i) 1 4) => absurd c (by rw [e1, ju_s]; exact nI_ge hi (by omega)), fun _ => ?_⟩
        iterate 2 refine jw_u rfl ?_
        refine c_letterHere hu (et i) (ju_s _ _ _ _) (Nat.le_of_lt hi) ?_
        refine jtop le_i ?_
        refine jw_u rfl ?_
        refine c_isFigure b2 (fun hf => ?_) (fun hf => ?_)
        · refine jw_u rfl ⟨fun c => absurd c n10, fun _ => ?_⟩
          have ih := ih (by omega) ((fe_s hi hf).symm.trans hi2)
          have next : jw (d + 2) kX4_readNumber Q 36 [some (.ref 1), some (.int g), some (.int (nI s)), some (.int (nI (vl u s (i + 1 - s))))] [] (ju x 1 4 (nI i)) := by
            iterate 3 refine jw_u rfl ?_
            refine jtop (ju_s _ _ _ _) ?_
            iterate 2 refine jw_u rfl ?_
            refine jtop (nI_add i 1) ?_
            refine jw_u rfl ⟨fun h => (by cases h), ?_⟩
            refine jw_u rfl ?_
            rw [ju_ju]
            exact ih
          iterate 2 refine jw_u rfl ?_
          refine jtop (ju_s _ _ _ _) ?_
          iterate 2 refine jw_u rfl ?_
          refine jtop (pk_sub hi1) ?_
          refine jw_u rfl ?_
          have ei : i + 1 - s = (i - s) + 1 := by omega
          refine jw_u rfl ⟨fun (c : nI 3 ≤ nI (i - s)) => ?_, fun (c : ¬ nI 3 ≤ nI (i - s)) => ?_⟩
          · rw [nI_leI (by decide) (by omega)] at c
            rw [ei, vl, if_neg (by omega)] at next
            exact next
          · rw [nI_leI (by decide) (by omega)] at c
            rw [ei, vl, if_pos (by omega), show s + (i - s) = i by omega] at next
            iterate 3 refine jw_u rfl ?_
            refine jtop (pk_mul 10 _) ?_
            iterate 2 refine jw_u rfl ?_
            refine c_letterHere hu (et i) (ju_s _ _ _ _) (Nat.le_of_lt hi) ?_
            refine jtop le_i ?_
            refine jw_u rfl ?_
            refine jtop (nI_add _ _) ?_
            iterate 2 refine jw_u rfl ?_
            refine jtop (v' := nI (10 * vl u s (i - s) + (u.2 i - 48) % 10)) (by rw [show jc 48 = nI 48 from rfl, pk_sub (by omega), show 10 * vl u s (i - s) + u.2 i - 48 = 10 * vl u s (i - s) + (u.2 i - 48) % 10 by omega]) ?_
            refine jw_u rfl ?_
            exact next
        · refine jw_u rfl ⟨fun _ => ?_, fun c => absurd n00 c⟩
          rw [fe_e (fun hc => hf hc.2)] at hi2
          rw [← hi2] at fin
          exact fin
    iterate 2 refine jw_u rfl ?_
    refine jtop (ju_s _ _ _ _) ?_
    iterate 3 refine jw_u rfl ?_
    have := loop s l2 (Nat.le_refl _) rfl
    rw [Nat.sub_self] at this
    exact this
theorem c_readEnd {s : aR} (hu : bT u) (ht : xT x u) (hs : rQ x u s) (h : ∀ x', fR x x' → xT x' u → rQ x' u (enS u s) → Q none x') : jo (d + 3) 16 [.ref 1] x Q := by
  have b1 := hu.1
  refine jo_i rfl rfl (Nat.le_of_ble_eq_true rfl) ?_
  iterate 2 refine jw_u rfl ?_
  cases s with
  | inl q =>
    obtain ⟨s1, s2, s3, s4⟩ := id hs
    refine jtop s1 ?_
    refine jw_u rfl ⟨fun (c : nI q.1 = 0) => absurd c (nI_ne0 (by omega) (by omega)), fun _ => ?_⟩
    refine jw_u rfl ?_
    exact h x ⟨fun _ _ => rfl, rfl⟩ ht hs
  | inr k =>
    obtain ⟨s1, s2, s3⟩ := id hs
    refine jtop s1 ?_
    refine jw_u rfl ⟨fun _ => ?_, fun c => absurd n00 c⟩
    iterate 2 refine jw_u rfl ?_
    refine c_skipBlanks hu ht s2 s3 ?_
    obtain ⟨l1, l2⟩ := sk_le (u := u) s3
    unfold enS at h
    dsimp only at h
    generalize sk u k = s at h l1 l2 ⊢
    have et : xT (ju x 1 4 (nI s)) u := fR_T fR_4 ht
    iterate 2 refine jw_u rfl ?_
    refine c_letterHere hu et (ju_s _ _ _ _) l2 ?_
    refine jw_u rfl ?_
    have el : le u s = nI 59 ↔ (s < u.1 ∧ u.2 s = 59) := by
      unfold le
      by_cases hs : s < u.1
      · have b2 := hu.2 s hs
        rw [if_pos hs, nI_eq (by omega) (by decide)]
        exact ⟨fun e => ⟨hs, e⟩, fun e => e.2⟩
      · rw [if_neg hs]
        exact ⟨fun e => absurd e (by decide), fun e => absurd e.1 hs⟩
    refine jw_u rfl ⟨fun (c : le u s = nI 59) => ?_, fun (c : ¬ le u s = nI 59) => ?_⟩
    · rw [el] at c
      rw [if_pos c] at h
      iterate 3 refine jw_u rfl ?_
      refine jtop (ju_s _ _ _ _) ?_
      iterate 2 refine jw_u rfl ?_
      refine jtop (nI_add s 1) ?_
      refine jw_u rfl ⟨fun h => (by cases h), ?_⟩
      refine jw_u rfl ?_
      rw [ju_ju]
      exact h _ fR_4 (fR_T fR_4 ht) ⟨by rw [ju_k (by decide)]; exact s1, ju_s _ _ _ _, c.1⟩
    · rw [el] at c
      rw [if_neg c] at h
      iterate 4 refine jw_u rfl ?_
      refine jtop (ju_s _ _ _ _) ?_
      refine jw_u rfl ?_
      refine c_fail ?_
      refine jw_u rfl ?_
      exact h _ fR_f (fR_T fR_f ht) (rQ_f5 (a := 1) (b := s) (by decide) (by decide))
end CJ
end
section
/-! THE CLASS: the reader's clauses -/
def fD (x x' : jM) : Prop := (∀ i, i = 0 ∨ i = 2 ∨ 10 < i → x' i = x i) ∧ x' 1 1 = x 1 1
theorem fD_r {x x' : jM} (h : fR x x') : fD x x' := ⟨fun i hi => h.1 i (by omega), h.2⟩
theorem fD_t {x y w : jM} (h1 : fD x y) (h2 : fD y w) : fD x w := ⟨fun i hi => (h2.1 i hi).trans (h1.1 i hi), h2.2.trans h1.2⟩
theorem fD_u {x : jM} {o k : Nat} {v : Int32} (h : 3 ≤ o ∧ o ≤ 10) : fD x (ju x o k v) := ⟨fun i hi => ju_oo (by omega), ju_o (by omega)⟩
def dX (x : jM) (u : aN) (r : aR × aC × aS) : Prop := xC x 3 r.2.1 ∧ xS x 7 (cN r.2.1) r.2.2 ∧ xT x u ∧ rQ x u r.1
theorem fR_5 {x : jM} {a b : Int32} : fR x (ju (ju x 1 5 a) 1 6 b) := ⟨fun i hi => by rw [ju_oo hi, ju_oo hi], by rw [ju_k (by decide), ju_k (by decide)]⟩
theorem dX_bad {x : jM} {u : aN} {a b : Nat} {C : aC} {S : aS} (h1 : 1 ≤ a) (h2 : a ≤ 3) (hC : xC x 3 C) (hS : xS x 7 (cN C) S) (ht : xT x u) : dX (ju (ju x 1 5 (nI a)) 1 6 (nI b)) u (.inl (a, b), C, S) := by
  have f : fR x (ju (ju x 1 5 (nI a)) 1 6 (nI b)) := fR_5
  exact ⟨xC_f (fun i g1 g2 => f.1 i (by omega)) hC, xS_f (fun i g1 g2 => f.1 i (by omega)) hS, fR_T f ht, ⟨by rw [ju_k (by decide), ju_s], ju_s _ _ _ _, h1, h2⟩⟩
theorem rQ_u {x : jM} {u : aN} {s : aR} {o k : Nat} {v : Int32} (h : 3 ≤ o) (hq : rQ x u s) : rQ (ju x o k v) u s := rQ_f (ju_oo (by omega)) hq
theorem xT_u {x : jM} {u : aN} {o k : Nat} {v : Int32} (h : 3 ≤ o) (hq : xT x u) : xT (ju x o k v) u := xT_f (ju_o (by omega)) (ju_oo (by omega)) hq
/-- a store at the end of a row -/
theorem up_row {x y : jM} {o n : Nat} {f : Nat → Nat} {v : Nat} (h : ∀ k, k < n → x o k = nI (f k)) (e1 : y o n = nI v) (e2 : ∀ k, k ≠ n → y o k = x o k) : ∀ k, k < n + 1 → y o k = nI (upN f n v k) := by
  intro k hk
  by_cases e : k = n
  · rw [e, upN_s]; exact e1
  · rw [upN_o e, e2 k e]; exact h k (by omega)
section CK
variable {d k : Nat} {x : jM} {Q : Option Value → jM → Prop} {u : aN} {C : aC} {S : aS}
theorem c_readGrand (hu : bT u) (hC : xC x 3 C) (hS : xS x 7 (cN C) S) (ht : xT x u) (hq : rQ x u (.inr (k + 1))) (bC : cT C ≤ 1) (h : ∀ x', fD x x' → dX x' u (clX u k C S) → Q none x') : jo (d + 4) 11 [.ref 1, .int (nI k)] x Q := by
  refine jo_i rfl rfl (Nat.le_of_ble_eq_true rfl) ?_
  iterate 3 refine jw_u rfl ?_
  refine jtop hC.1 ?_
  unfold clX at h
  refine jw_u rfl ⟨fun (c : nI (cT C) = 0) => ?_, fun (c : ¬ nI (cT C) = 0) => ?_⟩
  · rw [if_neg (fun e => by rw [e] at c; exact n10 c)] at h
    iterate 3 refine jw_u rfl ?_
    refine c_readNumber (g := nI 999) (hi := 999) hu (by decide) ht hq (fun x1 f1 t1 q1 => ?_)
    iterate 3 refine jw_u rfl ?_
    refine c_readEnd hu t1 q1 (fun x2 f2 t2 q2 => ?_)
    have f := fR_t f1 f2
    generalize nmS u 999 (.inr (k + 1)) = r1 at h q1 q2 ⊢
    have fin : dX (ju (ju x2 3 1 (nI r1.2)) 3 0 (nI 1)) u (enS u r1.1, (1, r1.2, cN C, cC C, cSl C, cDr C, cSq C), S) := by
      have e3 := f.1 3 (by decide)
      refine ⟨⟨ju_s _ _ _ _, ?_, ?_, ?_, fun j hj => ?_, fun j hj => ?_, fun j hj => ?_⟩, ?_, xT_u (by decide) (xT_u (by decide) t2), rQ_u (by decide) (rQ_u (by decide) q2)⟩
      · rw [ju_k (by decide), ju_s]
      · rw [ju_k (by decide), ju_k (by decide), e3]; exact hC.2.2.1
      · rw [ju_k (by decide), ju_k (by decide), e3]; exact hC.2.2.2.1
      · rw [ju_o (by decide), ju_o (by decide), f.1 4 (by decide)]; exact hC.2.2.2.2.1 j hj
      · rw [ju_o (by decide), ju_o (by decide), f.1 5 (by decide)]; exact hC.2.2.2.2.2.1 j hj
      · rw [ju_o (by decide), ju_o (by decide), f.1 6 (by decide)]; exact hC.2.2.2.2.2.2 j hj
      · exact xS_f (fun i g1 g2 => by rw [ju_oo (by omega), ju_oo (by omega), f.1 i (by omega)]) hS
    iterate 3 refine jw_u rfl ?_
    refine jw_u rfl ⟨fun h => (by cases h), ?_⟩
    iterate 3 refine jw_u rfl ?_
    refine jw_u rfl ⟨fun _ => Or.inr rfl, ?_⟩
    refine jw_u rfl ?_
    exact h _ (fD_t (fD_r f) (fD_t (fD_u (by decide)) (fD_u (by decide)))) fin
  · rw [if_pos (by
      rcases (show cT C = 0 ∨ cT C = 1 by omega) with e | e
      · rw [e] at c
        exact absurd n00 c
      · exact e)] at h
    iterate 4 refine jw_u rfl ?_
    refine c_fail ?_
    refine jw_u rfl ?_
    exact h _ (fD_r fR_5) (dX_bad (a := 3) (b := k) (by decide) (by decide) hC hS ht)
theorem c_readPerson (hu : bT u) (hC : xC x 3 C) (hS : xS x 7 (cN C) S) (ht : xT x u) (hq : rQ x u (.inr (k + 1))) (bC : cN C ≤ 8) (h : ∀ x', fD x x' → dX x' u (clP u k C S) → Q none x') : jo (d + 4) 12 [.ref 1, .int (nI k)] x Q := by
  refine jo_i rfl rfl (Nat.le_of_ble_eq_true rfl) ?_
  iterate 3 refine jw_u rfl ?_
  refine jtop hC.2.2.1 ?_
  iterate 3 refine jw_u rfl ?_
  unfold clP at h
  refine jw_u rfl ⟨fun (c : nI (cN C) < nI 8) => ?_, fun (c : ¬ nI (cN C) < nI 8) => ?_⟩
  · rw [nI_ltI (by omega) (by decide)] at c
    rw [if_pos c] at h
    iterate 7 refine jw_u rfl ?_
    refine c_readNumber (g := nI 999) (hi := 999) hu (by decide) ht hq (fun x1 f1 t1 q1 => ?_)
    generalize nmS u 999 (.inr (k + 1)) = r1 at h q1 ⊢
    refine jw_u rfl (jsN (show cN C < 8 by omega) (by decide) ?_)
    iterate 7 refine jw_u rfl ?_
    refine c_readNumber (x := ju x1 8 (cN C) (nI r1.2)) (g := nI 3) (hi := 3) hu (by decide) (xT_u (by decide) t1) (rQ_u (by decide) q1) (fun x2 f2 t2 q2 => ?_)
    generalize nmS u 3 r1.1 = r2 at h q2 ⊢
    refine jw_u rfl (jsN (show cN C < 8 by omega) (by decide) ?_)
    iterate 7 refine jw_u rfl ?_
    refine c_readNumber (x := ju x2 4 (cN C) (nI r2.2)) (g := nI 2) (hi := 2) hu (by decide) (xT_u (by decide) t2) (rQ_u (by decide) q2) (fun x3 f3 t3 q3 => ?_)
    generalize nmS u 2 r2.1 = r3 at h q3 ⊢
    refine jw_u rfl (jsN (show cN C < 8 by omega) (by decide) ?_)
    iterate 2 refine jw_u rfl ?_
    refine c_readEnd (x := ju x3 5 (cN C) (nI r3.2)) hu (xT_u (by decide) t3) (rQ_u (by decide) q3) (fun x4 f4 t4 q4 => ?_)
    have fz : fD x x4 := fD_t (fD_r f1) (fD_t (fD_u (by decide)) (fD_t (fD_r f2) (fD_t (fD_u (by decide)) (fD_t (fD_r f3) (fD_t (fD_u (by decide)) (fD_r f4))))))
    have fo : ∀ i, i ≠ 1 → i ≠ 8 → i ≠ 4 → i ≠ 5 → x4 i = x i := fun i g1 g2 g3 g4 => by rw [f4.1 i g1, ju_oo g4, f3.1 i g1, ju_oo g3, f2.1 i g1, ju_oo g2, f1.1 i g1]
    have e8 : x4 8 = (ju x1 8 (cN C) (nI r1.2)) 8 := by rw [f4.1 8 (by decide), ju_oo (by decide), f3.1 8 (by decide), ju_oo (by decide), f2.1 8 (by decide)]
    have e4 : x4 4 = (ju x2 4 (cN C) (nI r2.2)) 4 := by rw [f4.1 4 (by decide), ju_oo (by decide), f3.1 4 (by decide)]
    have e5 : x4 5 = (ju x3 5 (cN C) (nI r3.2)) 5 := by rw [f4.1 5 (by decide)]
    have fin : dX (ju x4 3 2 (nI (cN C + 1))) u (enS u r3.1, (cT C, cG C, cN C + 1, cC C, upN (cSl C) (cN C) r2.2, upN (cDr C) (cN C) r3.2, cSq C), (upN (sH S) (cN C) r1.2, sP S, sM S, sN S, sY S)) := by
      have e3 := fo 3 (by decide) (by decide) (by decide) (by decide)
      have e7 := fo 7 (by decide) (by decide) (by decide) (by decide)
      refine ⟨⟨?_, ?_, ju_s _ _ _ _, ?_, ?_, ?_, fun j hj => ?_⟩, ⟨?_, ?_, fun j hj => ?_, fun j hj => ?_, ?_⟩, xT_u (by decide) t4, rQ_u (by decide) q4⟩
      · rw [ju_k (by decide), e3]; exact hC.1
      · rw [ju_k (by decide), e3]; exact hC.2.1
      · rw [ju_k (by decide), e3]; exact hC.2.2.2.1
      · refine up_row (x := x) (o := 4) hC.2.2.2.2.1 (by rw [ju_o (by decide), e4, ju_s]) (fun j hj => by rw [ju_o (by decide), e4, ju_k hj, f2.1 4 (by decide), ju_o (by decide), f1.1 4 (by decide)])
      · refine up_row (x := x) (o := 5) hC.2.2.2.2.2.1 (by rw [ju_o (by decide), e5, ju_s]) (fun j hj => by rw [ju_o (by decide), e5, ju_k hj, f3.1 5 (by decide), ju_o (by decide), f2.1 5 (by decide), ju_o (by decide), f1.1 5 (by decide)])
      · rw [ju_o (by decide), fo 6 (by decide) (by decide) (by decide) (by decide)]; exact hC.2.2.2.2.2.2 j hj
      · refine up_row (x := x) (o := 8) hS.1 (by rw [ju_o (by decide), e8, ju_s]) (fun j hj => by rw [ju_o (by decide), e8, ju_k hj, f1.1 8 (by decide)])
      · rw [ju_o (by decide), e7]; exact hS.2.1
      · rw [ju_o (by decide), fo 9 (by decide) (by decide) (by decide) (by decide)]; exact hS.2.2.1 j hj
      · rw [ju_o (by decide), fo 10 (by decide) (by decide) (by decide) (by decide)]; exact hS.2.2.2.1 j hj
      · rw [ju_o (by decide), e7]; exact hS.2.2.2.2
    iterate 4 refine jw_u rfl ?_
    refine jtop (v' := nI (cN C)) (by rw [fo 3 (by decide) (by decide) (by decide) (by decide)]; exact hC.2.2.1) ?_
    iterate 2 refine jw_u rfl ?_
    refine jtop (nI_add (cN C) 1) ?_
    refine jw_u rfl ⟨fun h => (by cases h), ?_⟩
    refine jw_u rfl ?_
    exact h _ (fD_t fz (fD_u (by decide))) fin
  · rw [nI_ltI (by omega) (by decide)] at c
    rw [if_neg c] at h
    iterate 4 refine jw_u rfl ?_
    refine c_fail ?_
    refine jw_u rfl ?_
    exact h _ (fD_r fR_5) (dX_bad (a := 3) (b := k) (by decide) (by decide) hC hS ht)
theorem c_readPaper (hu : bT u) (hC : xC x 3 C) (hS : xS x 7 (cN C) S) (ht : xT x u) (hq : rQ x u (.inr (k + 1))) (bC : cN C ≤ 8) (bP : sP S ≤ 8) (h : ∀ x', fD x x' → dX x' u (clS u k C S) → Q none x') : jo (d + 4) 13 [.ref 1, .int (nI k)] x Q := by
  refine jo_i rfl rfl (Nat.le_of_ble_eq_true rfl) ?_
  iterate 3 refine jw_u rfl ?_
  refine jtop hS.2.1 ?_
  refine jw_u rfl ?_
  unfold clS at h
  refine jw_u rfl ⟨fun (c : nI (sP S) < nI 8) => ?_, fun (c : ¬ nI (sP S) < nI 8) => ?_⟩
  · rw [nI_ltI (by omega) (by decide)] at c
    rw [if_pos c] at h
    iterate 4 refine jw_u rfl ?_
    refine jtop hC.2.2.1 ?_
    iterate 3 refine jw_u rfl ?_
    refine c_readNumber (g := nI (cN C) - nI 1) (hi := (cN C : Int) - 1) hu (pk_sub_toInt (by omega) (by decide)) ht hq (fun x1 f1 t1 q1 => ?_)
    generalize nmS u ((cN C : Int) - 1) (.inr (k + 1)) = r1 at h q1 ⊢
    iterate 4 refine jw_u rfl ?_
    refine c_readNumber (g := nI 999) (hi := 999) hu (by decide) t1 q1 (fun x2 f2 t2 q2 => ?_)
    generalize nmS u 999 r1.1 = r2 at h q2 ⊢
    iterate 3 refine jw_u rfl ?_
    refine c_readEnd hu t2 q2 (fun x3 f3 t3 q3 => ?_)
    have f := fR_t f1 (fR_t f2 f3)
    have e7 := f.1 7 (by decide)
    iterate 5 refine jw_u rfl ?_
    refine c_addPaper (o := 7) (k := sP S) (Or.inr rfl) (by rw [e7]; exact hS.2.1) c ?_
    have fin : dX (ju (ju (ju x3 10 (sP S) (nI r1.2)) 9 (sP S) (nI r2.2)) 7 1 (nI (sP S + 1))) u (enS u r2.1, C, (sH S, sP S + 1, upN (sM S) (sP S) r2.2, upN (sN S) (sP S) r1.2, sY S)) := by
      refine ⟨xC_f (fun i g1 g2 => by rw [ju_oo (by omega), ju_oo (by omega), ju_oo (by omega), f.1 i (by omega)]) hC, ⟨fun j hj => ?_, ju_s _ _ _ _, ?_, ?_, ?_⟩, xT_u (by decide) (xT_u (by decide) (xT_u (by decide) t3)), rQ_u (by decide) (rQ_u (by decide) (rQ_u (by decide) q3))⟩
      · rw [ju_o (by decide), ju_o (by decide), ju_o (by decide), f.1 8 (by decide)]; exact hS.1 j hj
      · refine up_row (x := x) (o := 9) hS.2.2.1 (by rw [ju_o (by decide), ju_s]) (fun j hj => by rw [ju_o (by decide), ju_k hj, ju_o (by decide), f.1 9 (by decide)])
      · refine up_row (x := x) (o := 10) hS.2.2.2.1 (by rw [ju_o (by decide), ju_o (by decide), ju_s]) (fun j hj => by rw [ju_o (by decide), ju_o (by decide), ju_k hj, f.1 10 (by decide)])
      · rw [ju_k (by decide), ju_o (by decide), ju_o (by decide), e7]; exact hS.2.2.2.2
    refine jw_u rfl ?_
    exact h _ (fD_t (fD_r f) (fD_t (fD_u (by decide)) (fD_t (fD_u (by decide)) (fD_u (by decide))))) fin
  · rw [nI_ltI (by omega) (by decide)] at c
    rw [if_neg c] at h
    iterate 4 refine jw_u rfl ?_
    refine c_fail ?_
    refine jw_u rfl ?_
    exact h _ (fD_r fR_5) (dX_bad (a := 3) (b := k) (by decide) (by decide) hC hS ht)
theorem c_readCand (hu : bT u) (hC : xC x 3 C) (hS : xS x 7 (cN C) S) (ht : xT x u) (hq : rQ x u (.inr (k + 1))) (bC : cC C ≤ 4) (h : ∀ x', fD x x' → dX x' u (clC u k C S) → Q none x') : jo (d + 4) 14 [.ref 1, .int (nI k)] x Q := by
  refine jo_i rfl rfl (Nat.le_of_ble_eq_true rfl) ?_
  iterate 3 refine jw_u rfl ?_
  refine jtop hC.2.2.2.1 ?_
  iterate 3 refine jw_u rfl ?_
  unfold clC at h
  refine jw_u rfl ⟨fun (c : nI (cC C) < nI 4) => ?_, fun (c : ¬ nI (cC C) < nI 4) => ?_⟩
  · rw [nI_ltI (by omega) (by decide)] at c
    rw [if_pos c] at h
    iterate 7 refine jw_u rfl ?_
    refine c_readNumber (g := nI 999) (hi := 999) hu (by decide) ht hq (fun x1 f1 t1 q1 => ?_)
    generalize nmS u 999 (.inr (k + 1)) = r1 at h q1 ⊢
    refine jw_u rfl (jsN (show cC C < 4 by omega) (by decide) ?_)
    iterate 2 refine jw_u rfl ?_
    refine c_readEnd (x := ju x1 6 (cC C) (nI r1.2)) hu (xT_u (by decide) t1) (rQ_u (by decide) q1) (fun x4 f4 t4 q4 => ?_)
    have fz : fD x x4 := fD_t (fD_r f1) (fD_t (fD_u (by decide)) (fD_r f4))
    have fo : ∀ i, i ≠ 1 → i ≠ 6 → x4 i = x i := fun i g1 g2 => by rw [f4.1 i g1, ju_oo g2, f1.1 i g1]
    have e3 := fo 3 (by decide) (by decide)
    have fin : dX (ju x4 3 5 (nI (cC C + 1))) u (enS u r1.1, (cT C, cG C, cN C, cC C + 1, cSl C, cDr C, upN (cSq C) (cC C) r1.2), S) := by
      refine ⟨⟨?_, ?_, ?_, ju_s _ _ _ _, fun j hj => ?_, fun j hj => ?_, ?_⟩, ?_, xT_u (by decide) t4, rQ_u (by decide) q4⟩
      · rw [ju_k (by decide), e3]; exact hC.1
      · rw [ju_k (by decide), e3]; exact hC.2.1
      · rw [ju_k (by decide), e3]; exact hC.2.2.1
      · rw [ju_o (by decide), fo 4 (by decide) (by decide)]; exact hC.2.2.2.2.1 j hj
      · rw [ju_o (by decide), fo 5 (by decide) (by decide)]; exact hC.2.2.2.2.2.1 j hj
      · refine up_row (x := x) (o := 6) hC.2.2.2.2.2.2 (by rw [ju_o (by decide), f4.1 6 (by decide), ju_s]) (fun j hj => by rw [ju_o (by decide), f4.1 6 (by decide), ju_k hj, f1.1 6 (by decide)])
      · exact xS_f (fun i g1 g2 => by rw [ju_oo (by omega), fo i (by omega) (by omega)]) hS
    iterate 4 refine jw_u rfl ?_
    refine jtop (v' := nI (cC C)) (by rw [e3]; exact hC.2.2.2.1) ?_
    iterate 2 refine jw_u rfl ?_
    refine jtop (nI_add (cC C) 1) ?_
    refine jw_u rfl ⟨fun h => (by cases h), ?_⟩
    refine jw_u rfl ?_
    exact h _ (fD_t fz (fD_u (by decide))) fin
  · rw [nI_ltI (by omega) (by decide)] at c
    rw [if_neg c] at h
    iterate 4 refine jw_u rfl ?_
    refine c_fail ?_
    refine jw_u rfl ?_
    exact h _ (fD_r fR_5) (dX_bad (a := 3) (b := k) (by decide) (by decide) hC hS ht)
theorem c_readClause (hu : bT u) (hC : xC x 3 C) (hS : xS x 7 (cN C) S) (ht : xT x u) (hq : rQ x u (.inr k)) (hk : k < u.1) (bC : wC C) (bP : sP S ≤ 8) (h : ∀ x', fD x x' → dX x' u (cl u k C S) → Q none x') : jo (d + 5) 10 [.ref 1] x Q := by
  have b2 := hu.2 k hk
  have b1 := hu.1
  obtain ⟨q1, q2, q3⟩ := hq
  refine jo_i rfl rfl (Nat.le_of_ble_eq_true rfl) ?_
  iterate 2 refine jw_u rfl ?_
  refine jtop q2 ?_
  iterate 3 refine jw_u rfl ?_
  refine c_letterHere hu ht q2 q3 ?_
  refine jtop (v' := nI (u.2 k)) (by unfold le; rw [if_pos hk]) ?_
  iterate 4 refine jw_u rfl ?_
  refine jtop q2 ?_
  iterate 2 refine jw_u rfl ?_
  refine jtop (nI_add k 1) ?_
  refine jw_u rfl ⟨fun h => (by cases h), ?_⟩
  have fy : fR x (ju x 1 4 (nI (k + 1))) := fR_4
  have hC' : xC (ju x 1 4 (nI (k + 1))) 3 C := xC_f (fun i g1 g2 => fy.1 i (by omega)) hC
  have hS' : xS (ju x 1 4 (nI (k + 1))) 7 (cN C) S := xS_f (fun i g1 g2 => fy.1 i (by omega)) hS
  have ht' := fR_T fy ht
  have hq' : rQ (ju x 1 4 (nI (k + 1))) u (.inr (k + 1)) := ⟨by rw [ju_k (by decide)]; exact q1, ju_s _ _ _ _, hk⟩
  have h : ∀ x', fD (ju x 1 4 (nI (k + 1))) x' → dX x' u (cl u k C S) → Q none x' := fun x' hf hd => h x' (fD_t (fD_r fy) hf) hd
  generalize ju x 1 4 (nI (k + 1)) = y at hC' hS' ht' hq' h ⊢
  have sw : ¬ (cT C = 0 ∧ u.2 k ≠ 120) → jw (d + 4) kX4_readClause Q 24 [some (.ref 1), some (.int (nI k)), some (.int (nI (u.2 k)))] [] y := by
    intro hn
    unfold cl at h
    rw [if_neg hn] at h
    have hi : (nI (u.2 k)).toInt = (u.2 k : Int) := nI_toInt (by omega)
    refine jw_u rfl ?_
    refine jw_u rfl ⟨fun (e : (nI (u.2 k)).toInt = 99) => ?_, fun (e1 : ¬ (nI (u.2 k)).toInt = 99) => ⟨fun (e : (nI (u.2 k)).toInt = 112) => ?_, fun (e2 : ¬ (nI (u.2 k)).toInt = 112) => ⟨fun (e : (nI (u.2 k)).toInt = 115) => ?_, fun (e3 : ¬ (nI (u.2 k)).toInt = 115) => ⟨fun (e : (nI (u.2 k)).toInt = 120) => ?_, fun (e4 : ¬ (nI (u.2 k)).toInt = 120) => ?_⟩⟩⟩⟩
    · rw [hi] at e
      rw [if_neg (by omega), if_neg (by omega), if_neg (by omega), if_pos (by omega)] at h
      iterate 3 refine jw_u rfl ?_
      refine c_readCand hu hC' hS' ht' hq' bC.2.2.2.1 (fun x' hf hd => ?_)
      iterate 2 refine jw_u rfl ?_
      exact h x' hf hd
    · rw [hi] at e
      rw [if_neg (by omega), if_pos (by omega)] at h
      iterate 3 refine jw_u rfl ?_
      refine c_readPerson hu hC' hS' ht' hq' bC.2.2.1 (fun x' hf hd => ?_)
      iterate 2 refine jw_u rfl ?_
      exact h x' hf hd
    · rw [hi] at e
      rw [if_neg (by omega), if_neg (by omega), if_pos (by omega)] at h
      iterate 3 refine jw_u rfl ?_
      refine c_readPaper hu hC' hS' ht' hq' bC.2.2.1 bP (fun x' hf hd => ?_)
      iterate 2 refine jw_u rfl ?_
      exact h x' hf hd
    · rw [hi] at e
      rw [if_pos (by omega)] at h
      iterate 3 refine jw_u rfl ?_
      refine c_readGrand hu hC' hS' ht' hq' bC.1 (fun x' hf hd => ?_)
      iterate 2 refine jw_u rfl ?_
      exact h x' hf hd
    · rw [hi] at e1 e2 e3 e4
      rw [if_neg (by omega), if_neg (by omega), if_neg (by omega), if_neg (by omega)] at h
      iterate 4 refine jw_u rfl ?_
      refine c_fail ?_
      refine jw_u rfl ?_
      exact h _ (fD_r fR_5) (dX_bad (a := 1) (b := k) (by decide) (by decide) hC' hS' ht')
  iterate 3 refine jw_u rfl ?_
  refine jtop hC'.1 ?_
  refine jw_u rfl ⟨fun (c : ¬ nI (cT C) = 0) => sw (fun hc => c (by rw [hc.1]; decide)), fun (c : nI (cT C) = 0) => ?_⟩
  iterate 2 refine jw_u rfl ?_
  refine jw_u rfl ⟨fun (c2 : nI (u.2 k) = nI 120) => sw (fun hc => hc.2 ((nI_eq (by omega) (by decide)).mp c2)), fun (c2 : ¬ nI (u.2 k) = nI 120) => ?_⟩
  have e0 : cT C = 0 := (nI_eq (by have := bC.1; omega) (by decide)).mp (c.trans n00.symm)
  unfold cl at h
  rw [if_pos ⟨e0, fun e => c2 (by rw [e])⟩] at h
  iterate 4 refine jw_u rfl ?_
  refine c_fail ?_
  refine jw_u rfl ?_
  exact h _ (fD_r fR_5) (dX_bad (a := 1) (b := k) (by decide) (by decide) hC' hS' ht')
end CK
end
section
/-! THE CLASS: the whole text, the clan -/
def fk : aR → Nat
  | .inl q => q.1
  | .inr _ => 0
def cA4 (x : jM) (o s n : Nat) : jM := jua x o (va_cpy (x s) (x o) 0 0 n)
theorem cA4_o {x : jM} {o s n i : Nat} (h : i ≠ o) : cA4 x o s n i = x i := jua_o h
theorem cA4_s {x : jM} {o s n k : Nat} (hk : k < n) : cA4 x o s n o k = x s k := by
  unfold cA4
  rw [jua_s]
  simp [va_cpy, hk]
theorem b01 {t : Nat} (h : t ≤ 1) : nI t = 0 ∨ nI t = 1 := by
  rcases (show t = 0 ∨ t = 1 by omega) with e | e
  · rw [e]; exact Or.inl rfl
  · rw [e]; exact Or.inr rfl
section CL
variable {d : Nat} {x : jM} {Q : Option Value → jM → Prop} {u : aN} {C : aC} {S : aS} {z : aX}
theorem c_emptyC (h : Q none (ju (ju (ju (ju x 3 0 (nI 0)) 3 1 (nI 0)) 3 2 (nI 0)) 3 5 (nI 0))) : jo (d + 1) 0 [.ref 3] x Q := by
  refine jo_i rfl rfl (Nat.le_of_ble_eq_true rfl) ?_
  iterate 2 refine jw_u rfl ?_
  refine jw_u rfl ⟨fun _ => Or.inl rfl, ?_⟩
  iterate 2 refine jw_u rfl ?_
  refine jw_u rfl ⟨fun h => (by cases h), ?_⟩
  iterate 2 refine jw_u rfl ?_
  refine jw_u rfl ⟨fun h => (by cases h), ?_⟩
  iterate 2 refine jw_u rfl ?_
  refine jw_u rfl ⟨fun h => (by cases h), ?_⟩
  refine jw_u rfl ?_
  exact h
theorem c_emptyS (h : Q none (ju (ju x 7 1 (nI 0)) 7 4 (nI 0))) : jo (d + 1) 21 [.ref 7] x Q := by
  refine jo_i rfl rfl (Nat.le_of_ble_eq_true rfl) ?_
  iterate 2 refine jw_u rfl ?_
  refine jw_u rfl ⟨fun h => (by cases h), ?_⟩
  iterate 2 refine jw_u rfl ?_
  refine jw_u rfl ⟨fun h => (by cases h), ?_⟩
  refine jw_u rfl ?_
  exact h
theorem c_takeC (hC : xC x 3 C) (wc : wC C) (h : ∀ x', (∀ i, i < 11 ∨ 14 < i → x' i = x i) → xC x' 11 C → Q none x') : jo (d + 2) 1 [.ref 11, .ref 3] x Q := by
  obtain ⟨c1, c2, c3, c4, c5, c6, c7⟩ := hC
  obtain ⟨w1, w2, w3, w4, -⟩ := wc
  refine jo_i rfl rfl (Nat.le_of_ble_eq_true rfl) ?_
  iterate 3 refine jw_u rfl ?_
  refine jtop c1 ?_
  refine jw_u rfl ⟨fun _ => b01 w1, ?_⟩
  iterate 3 refine jw_u rfl ?_
  refine jtop (v' := nI (cG C)) (by rw [ju_o (by decide)]; exact c2) ?_
  refine jw_u rfl ⟨fun h => (by cases h), ?_⟩
  iterate 3 refine jw_u rfl ?_
  refine jtop (v' := nI (cN C)) (by rw [ju_o (by decide), ju_o (by decide)]; exact c3) ?_
  refine jw_u rfl ⟨fun h => (by cases h), ?_⟩
  iterate 3 refine jw_u rfl ?_
  refine jtop (v' := nI (cC C)) (by rw [ju_o (by decide), ju_o (by decide), ju_o (by decide)]; exact c4) ?_
  refine jw_u rfl ⟨fun h => (by cases h), ?_⟩
  have fin : ∀ y, y = ju (ju (ju (ju x 11 0 (nI (cT C))) 11 1 (nI (cG C))) 11 2 (nI (cN C))) 11 5 (nI (cC C)) → Q none (cA4 (cA4 (cA4 y 12 4 8) 13 5 8) 14 6 4) := by
    intro y hy
    have fy : ∀ i, i ≠ 11 → y i = x i := fun i hi => by rw [hy, ju_oo hi, ju_oo hi, ju_oo hi, ju_oo hi]
    refine h _ (fun i hi => by rw [cA4_o (by omega), cA4_o (by omega), cA4_o (by omega), fy i (by omega)]) ⟨?_, ?_, ?_, ?_, fun k hk => ?_, fun k hk => ?_, fun k hk => ?_⟩
    · rw [cA4_o (by decide), cA4_o (by decide), cA4_o (by decide), hy, ju_k (by decide), ju_k (by decide), ju_k (by decide), ju_s]
    · rw [cA4_o (by decide), cA4_o (by decide), cA4_o (by decide), hy, ju_k (by decide), ju_k (by decide), ju_s]
    · rw [cA4_o (by decide), cA4_o (by decide), cA4_o (by decide), hy, ju_k (by decide), ju_s]
    · rw [cA4_o (by decide), cA4_o (by decide), cA4_o (by decide), hy, ju_s]
    · rw [cA4_o (by decide), cA4_o (by decide), cA4_s (by omega), fy 4 (by decide)]; exact c5 k hk
    · rw [cA4_o (by decide), cA4_s (by omega), cA4_o (by decide), fy 5 (by decide)]; exact c6 k hk
    · rw [cA4_s (by omega), cA4_o (by decide), cA4_o (by decide), fy 6 (by decide)]; exact c7 k hk
  have fin := fin _ rfl
  generalize ju (ju (ju (ju x 11 0 (nI (cT C))) 11 1 (nI (cG C))) 11 2 (nI (cN C))) 11 5 (nI (cC C)) = y at fin ⊢
  iterate 7 refine jw_u rfl ?_
  refine jw_u rfl ⟨by decide, by decide, by decide, (by decide : 0 + 8 ≤ 8), (by decide : 0 + 8 ≤ 8), ?_⟩
  iterate 7 refine jw_u rfl ?_
  refine jw_u rfl ⟨by decide, by decide, by decide, (by decide : 0 + 8 ≤ 8), (by decide : 0 + 8 ≤ 8), ?_⟩
  iterate 7 refine jw_u rfl ?_
  refine jw_u rfl ⟨by decide, by decide, by decide, (by decide : 0 + 4 ≤ 4), (by decide : 0 + 4 ≤ 4), ?_⟩
  refine jw_u rfl ?_
  exact fin
theorem wD_0 (u : aN) : wD u (.inr 0, C0, S0) := ⟨Nat.zero_le _, fun _ _ => ⟨⟨Nat.zero_le _, (by decide : 0 < 1000), Nat.zero_le _, Nat.zero_le _, fun k _ => Nat.zero_le _, fun k _ => Nat.zero_le _, fun k _ => (by decide : 0 < 1000)⟩, ⟨fun k _ => (by decide : 0 < 1000), Nat.zero_le _, fun k _ => (by decide : 0 < 1000), fun k hk => absurd hk (Nat.not_lt_zero _), Nat.zero_le _⟩⟩⟩
theorem c_readAll (hu : bT u) (ht : xT x u) (h : ∀ x', fD x x' → dX x' u (pa u 240 (.inr 0, C0, S0)) → Q (some (.int (nI (fk (pa u 240 (.inr 0, C0, S0)).1)))) x') : jo (d + 6) 9 [.ref 1] x Q := by
  have b1 := hu.1
  generalize hR : pa u 240 (.inr 0, C0, S0) = R at h
  have fk5 : ∀ x' r, dX x' u r → x' 1 5 = nI (fk r.1) := by
    intro x' r hd
    obtain ⟨s, C, S⟩ := r
    cases s with
    | inl q => exact hd.2.2.2.1
    | inr k => exact hd.2.2.2.1
  have ret : ∀ x' i, fD x x' → dX x' u R → jw (d + 5) kX4_readAll Q 32 [some (.ref 1), some (.int i)] [] x' := by
    intro x' i hf hd
    iterate 2 refine jw_u rfl ?_
    refine jtop (fk5 x' R hd) ?_
    refine jw_u rfl ?_
    exact ⟨fun h => (by cases h), h x' hf hd⟩
  have loop : ∀ i, i ≤ 240 → ∀ x' r, fD x x' → dX x' u r → wD u r → pa u (240 - i) r = R → jw (d + 5) kX4_readAll Q 14 [some (.ref 1), some (.int (nI i))] [] x' := by
    refine dn _ 240 (fun x' r hf hd hw hr => ?_) (fun i hi ih x' r hf hd hw hr => ?_)
    · rw [Nat.sub_self, pa] at hr
      subst hr
      iterate 2 refine jw_u rfl ?_
      refine jw_u rfl ⟨fun _ => ret x' _ hf hd, fun (c : ¬ nI 240 ≤ nI 240) => absurd (Int32.le_refl _) c⟩
    · iterate 2 refine jw_u rfl ?_
      refine jw_u rfl ⟨fun (c : nI 240 ≤ nI i) => absurd c (nI_ge hi (by decide)), fun _ => ?_⟩
      iterate 2 refine jw_u rfl ?_
      refine jtop (fk5 x' r hd) ?_
      rw [show 240 - i = (240 - (i + 1)) + 1 by omega] at hr
      obtain ⟨s, C, S⟩ := r
      rw [pa] at hr
      cases s with
      | inl q =>
        dsimp only at hr
        subst hr
        obtain ⟨-, -, -, -, -, s3, s4⟩ := id hd
        refine jw_u rfl ⟨fun _ => ret x' _ hf hd, fun (c : nI q.1 = 0) => absurd c (nI_ne0 (by omega) (by omega))⟩
      | inr k =>
        dsimp only at hr
        obtain ⟨hC, hS, hT, q1, q2, q3⟩ := id hd
        obtain ⟨wc, ws⟩ := hw.2 k rfl
        obtain ⟨l1, l2⟩ := sk_le (u := u) q3
        refine jw_u rfl ⟨fun c => absurd n00 c, fun _ => ?_⟩
        iterate 2 refine jw_u rfl ?_
        refine c_skipBlanks hu hT q2 q3 ?_
        generalize sk u k = s at l1 l2 hr ⊢
        have fy : fR x' (ju x' 1 4 (nI s)) := fR_4
        have hd' : dX (ju x' 1 4 (nI s)) u (.inr s, C, S) := ⟨xC_f (fun i g1 g2 => fy.1 i (by omega)) hC, xS_f (fun i g1 g2 => fy.1 i (by omega)) hS, fR_T fy hT, ⟨by rw [ju_k (by decide)]; exact q1, ju_s _ _ _ _, l2⟩⟩
        have hf' := fD_t hf (fD_r fy)
        generalize ju x' 1 4 (nI s) = y at hd' hf' ⊢
        obtain ⟨gC, gS, gT, g1, g2, g3⟩ := id hd'
        iterate 4 refine jw_u rfl ?_
        refine jw_u rfl ⟨fun (c : y 1 4 < y 1 1) => ?_, fun (c : ¬ y 1 4 < y 1 1) => ?_⟩
        · rw [g2, gT.1, nI_ltI (by omega) (by omega)] at c
          rw [if_pos c] at hr
          iterate 2 refine jw_u rfl ?_
          refine c_readClause hu gC gS gT ⟨g1, g2, g3⟩ c wc ws.2.1 (fun x2 hf2 hd2 => ?_)
          iterate 2 refine jw_u rfl ?_
          have := ih x2 _ (fD_t hf' hf2) hd2 (cl_w c wc ws) hr
          rw [nI_s i] at this
          exact this
        · rw [g2, gT.1, nI_ltI (by omega) (by omega)] at c
          rw [if_neg c] at hr
          rw [← hr] at ret
          refine jw_u rfl ?_
          exact ret y _ hf' hd'
  refine jo_i rfl rfl (Nat.le_of_ble_eq_true rfl) ?_
  iterate 2 refine jw_u rfl ?_
  refine jw_u rfl ⟨fun h => (by cases h), ?_⟩
  iterate 2 refine jw_u rfl ?_
  refine jw_u rfl ⟨fun h => (by cases h), ?_⟩
  iterate 3 refine jw_u rfl ?_
  refine c_emptyC ?_
  iterate 3 refine jw_u rfl ?_
  refine c_emptyS ?_
  iterate 2 refine jw_u rfl ?_
  have f0 : fR x (ju (ju x 1 4 (nI 0)) 1 5 (nI 0)) := ⟨fun i hi => by rw [ju_oo hi, ju_oo hi], by rw [ju_k (by decide), ju_k (by decide)]⟩
  have t0 := fR_T f0 ht
  have r0 : rQ (ju (ju x 1 4 (nI 0)) 1 5 (nI 0)) u (.inr 0) := ⟨ju_s _ _ _ _, by rw [ju_k (by decide), ju_s], Nat.zero_le _⟩
  have key : ∀ y, fR x y → xT y u → rQ y u (.inr 0) → fD x (ju (ju (ju (ju (ju (ju y 3 0 (nI 0)) 3 1 (nI 0)) 3 2 (nI 0)) 3 5 (nI 0)) 7 1 (nI 0)) 7 4 (nI 0)) ∧ dX (ju (ju (ju (ju (ju (ju y 3 0 (nI 0)) 3 1 (nI 0)) 3 2 (nI 0)) 3 5 (nI 0)) 7 1 (nI 0)) 7 4 (nI 0)) u (.inr 0, C0, S0) := by
    intro y hf hT hq
    refine ⟨fD_t (fD_r hf) (fD_t (fD_u (by decide)) (fD_t (fD_u (by decide)) (fD_t (fD_u (by decide)) (fD_t (fD_u (by decide)) (fD_t (fD_u (by decide)) (fD_u (by decide))))))), ⟨?_, ?_, ?_, ?_, fun k hk => absurd hk (Nat.not_lt_zero _), fun k hk => absurd hk (Nat.not_lt_zero _), fun k hk => absurd hk (Nat.not_lt_zero _)⟩, ⟨fun k hk => absurd hk (Nat.not_lt_zero _), ?_, fun k hk => absurd hk (Nat.not_lt_zero _), fun k hk => absurd hk (Nat.not_lt_zero _), ?_⟩, xT_u (by decide) (xT_u (by decide) (xT_u (by decide) (xT_u (by decide) (xT_u (by decide) (xT_u (by decide) hT))))), rQ_u (by decide) (rQ_u (by decide) (rQ_u (by decide) (rQ_u (by decide) (rQ_u (by decide) (rQ_u (by decide) hq)))))⟩
    · rw [ju_o (by decide), ju_o (by decide), ju_k (by decide), ju_k (by decide), ju_k (by decide), ju_s]; rfl
    · rw [ju_o (by decide), ju_o (by decide), ju_k (by decide), ju_k (by decide), ju_s]; rfl
    · rw [ju_o (by decide), ju_o (by decide), ju_k (by decide), ju_s]; rfl
    · rw [ju_o (by decide), ju_o (by decide), ju_s]; rfl
    · rw [ju_k (by decide), ju_s]; rfl
    · rw [ju_s]; rfl
  have k1 := key _ f0 t0 r0
  exact loop 0 (Nat.zero_le _) _ _ k1.1 k1.2 (wD_0 u) hR
set_option maxHeartbeats 1000000 in
theorem C_clan (hx : RX z x) (hw : wX z) (h : ∀ x', RX (fClan z).2 x' → (∀ i, 121 ≤ i → x' i = x i) → Q (some (.int (fClan z).1)) x') : jo (d + 7) 25 [.ref 0] x Q := by
  obtain ⟨r1, r2, ⟨nx, r3⟩, r4, r5, r6, r7, r8⟩ := id hx
  have hu : bT (gT z) := hw.2.2.2.2.2.2.2
  refine jo_i rfl rfl (Nat.le_of_ble_eq_true rfl) ?_
  iterate 3 refine jw_u rfl ?_
  refine c_readAll hu r8 (fun x1 hf hd => ?_)
  have hD := pa_w 240 _ (wD_0 (gT z))
  generalize hR : pa (gT z) 240 (.inr 0, C0, S0) = R at hd hD ⊢
  iterate 4 refine jw_u rfl ?_
  refine jw_u rfl ⟨fun h => (by cases h), ?_⟩
  refine jw_u rfl ?_
  obtain ⟨s, C, S⟩ := R
  cases s with
  | inl q =>
    rw [show fClan z = (jc (-10) - nI q.1, (gC z, gS z, gH z, gI z, gN z, gB z, gD z, nI q.2, (0, (gT z).2))) by unfold fClan; rw [hR]] at h
    obtain ⟨-, -, -, s1, s2, s3, s4⟩ := hd
    refine jw_u rfl ⟨fun (c : nI q.1 = 0) => absurd c (nI_ne0 (by omega) (by omega)), fun _ => ?_⟩
    have fin : Q (some (.int (jc (-10) - nI q.1))) (ju (ju x1 1 1 (nI 0)) 0 9 (nI q.2)) := by
      have f : ∀ i, 10 < i → ju (ju x1 1 1 (nI 0)) 0 9 (nI q.2) i = x i := fun i hi => by rw [ju_oo (by omega), ju_oo (by omega), hf.1 i (by omega)]
      refine h _ ⟨xC_f (fun i g1 g2 => f i (by omega)) r1, xS_f (fun i g1 g2 => f i (by omega)) r2, ⟨nx, xH_f (fun i g1 g2 => f i (by omega)) r3⟩, xI_f (fun i g1 g2 => f i (by omega)) r4, xN_f (fun i g1 g2 => f i (by omega)) r5, ?_, ju_s _ _ _ _, ?_, fun k hk => absurd hk (Nat.not_lt_zero _)⟩ (fun i hi => f i (by omega))
      · rw [ju_k (by decide), ju_o (by decide), hf.1 0 (by omega)]; exact r6
      · rw [ju_o (by decide), ju_s]
    iterate 4 refine jw_u rfl ?_
    refine jtop (v' := nI q.2) (by rw [ju_k (by decide)]; exact s2) ?_
    refine jw_u rfl ⟨fun h => (by cases h), ?_⟩
    iterate 4 refine jw_u rfl ?_
    exact ⟨fun h => (by cases h), fin⟩
  | inr k =>
    rw [show fClan z = (nI (cN C), (C, S, [], fun _ => none, (0, (gN z).2), (0, (gB z).2), gD z, -1, (0, (gT z).2))) by unfold fClan; rw [hR]] at h
    obtain ⟨dC, dS, -, -⟩ := hd
    obtain ⟨wc, ws⟩ := hD.2 k rfl
    refine jw_u rfl ⟨fun _ => ?_, fun c => absurd n00 c⟩
    iterate 2 refine jw_u rfl ?_
    refine jw_u rfl ⟨fun h => (by cases h), ?_⟩
    have f1 : ∀ i, i ≠ 0 → i ≠ 1 → ju (ju x1 1 1 (nI 0)) 0 9 (jc (-1)) i = x1 i := fun i g1 g2 => by rw [ju_oo g1, ju_oo g2]
    have a1 : ju (ju x1 1 1 (nI 0)) 0 9 (jc (-1)) 1 1 = nI 0 := by rw [ju_o (by decide), ju_s]
    have a2 : ju (ju x1 1 1 (nI 0)) 0 9 (jc (-1)) 0 8 = nI (gD z) := by rw [ju_k (by decide), ju_o (by decide), hf.1 0 (by omega)]; exact r6
    have a3 : ju (ju x1 1 1 (nI 0)) 0 9 (jc (-1)) 0 9 = -1 := by rw [ju_s]; exact jm1
    show jw _ _ _ _ _ _ (ju (ju x1 1 1 (nI 0)) 0 9 (jc (-1)))
    generalize ju (ju x1 1 1 (nI 0)) 0 9 (jc (-1)) = y1 at f1 a1 a2 a3 ⊢
    iterate 6 refine jw_u rfl ?_
    refine c_takeC (C := C) (xC_f (fun i g1 g2 => f1 i (by omega) (by omega)) dC) wc (fun y2 f2 hC2 => ?_)
    iterate 6 refine jw_u rfl ?_
    refine c_takeS stI_15 stI_7 ?_
    have f3 : ∀ i, i < 15 ∨ 18 < i → cpS y2 15 7 i = y2 i := fun i hi => cpS_f (by omega)
    have hS3 := xS_cp (x := y2) (o := 15) (s := 7) (n := cN C) (Or.inr (by decide)) wc.2.2.1 ws.2.1 (xS_f (fun i g1 g2 => (f2 i (by omega)).trans (f1 i (by omega) (by omega))) dS)
    generalize cpS y2 15 7 = y3 at f3 hS3 ⊢
    iterate 3 refine jw_u rfl ?_
    refine c_clearAll ?_
    iterate 3 refine jw_u rfl ?_
    refine c_forget ?_
    have g0 : ∀ i, i ≠ 116 → i ≠ 23 → ju (ju (ju y3 116 0 (nI 0)) 116 2 (nI 0)) 23 1 (nI 0) i = y3 i := fun i h1 h2 => by rw [ju_oo h2, ju_oo h1, ju_oo h1]
    have n0 : ju (ju (ju y3 116 0 (nI 0)) 116 2 (nI 0)) 23 1 (nI 0) 116 0 = nI 0 := by rw [ju_o (by decide), ju_k (by decide), ju_s]
    have n2 : ju (ju (ju y3 116 0 (nI 0)) 116 2 (nI 0)) 23 1 (nI 0) 116 2 = nI 0 := by rw [ju_o (by decide), ju_s]
    have h1' : ju (ju (ju y3 116 0 (nI 0)) 116 2 (nI 0)) 23 1 (nI 0) 23 1 = nI 0 := ju_s _ _ _ _
    have h2' : ju (ju (ju y3 116 0 (nI 0)) 116 2 (nI 0)) 23 1 (nI 0) 23 2 = nI nx := by rw [ju_k (by decide), ju_o (by decide), ju_o (by decide), f3 23 (by omega), f2 23 (by omega), f1 23 (by decide) (by decide), hf.1 23 (by omega)]; exact r3.2.1
    show jw _ _ _ _ _ _ (ju (ju (ju y3 116 0 (nI 0)) 116 2 (nI 0)) 23 1 (nI 0))
    generalize ju (ju (ju y3 116 0 (nI 0)) 116 2 (nI 0)) 23 1 (nI 0) = y4 at g0 n0 n2 h1' h2' ⊢
    have fin : jw (d + 6) kX6_clan Q 42 [some (.ref 0), some (.int (nI (fk (.inr k : aR)))), some (.int (nI 2))] [] (ju (ju y4 106 0 (nI 0)) 111 0 (nI 0)) := by
      have q : ∀ i, i ≠ 106 → i ≠ 111 → ju (ju y4 106 0 (nI 0)) 111 0 (nI 0) i = y4 i := fun i h1 h2 => by rw [ju_oo h2, ju_oo h1]
      have i0 : ju (ju y4 106 0 (nI 0)) 111 0 (nI 0) 106 0 = nI 0 := by rw [ju_o (by decide), ju_s]
      have i1 : ju (ju y4 106 0 (nI 0)) 111 0 (nI 0) 111 0 = nI 0 := ju_s _ _ _ _
      generalize ju (ju y4 106 0 (nI 0)) 111 0 (nI 0) = y5 at q i0 i1 ⊢
      have hC5 : xC y5 11 C := xC_f (fun i g1 g2 => by rw [q i (by omega) (by omega), g0 i (by omega) (by omega), f3 i (by omega)]) hC2
      iterate 2 refine jw_u rfl ?_
      refine jw_u rfl ⟨fun _ => ?_, fun (c : ¬ nI 2 ≤ nI 2) => absurd (Int32.le_refl _) c⟩
      iterate 3 refine jw_u rfl ?_
      refine jtop hC5.2.2.1 ?_
      refine jw_u rfl ?_
      refine ⟨fun h => (by cases h), h y5 ⟨hC5, xS_f (fun i g1 g2 => by rw [q i (by omega) (by omega), g0 i (by omega) (by omega)]) hS3, ⟨nx, ?_, ?_, r3.2.2.1, Nat.zero_le _, fun k S hk => by cases hk⟩, fun i hi => ⟨fun _ => ?_, fun S s hc => by cases hc⟩, ⟨?_, fun k hk => absurd hk (Nat.not_lt_zero _), ?_, fun k hk => absurd hk (Nat.not_lt_zero _), fun k hk => absurd hk (Nat.not_lt_zero _)⟩, ?_, ?_, ?_, fun k hk => absurd hk (Nat.not_lt_zero _)⟩ (fun i hi => by rw [q i (by omega) (by omega), g0 i (by omega) (by omega), f3 i (by omega), f2 i (by omega), f1 i (by omega) (by omega), hf.1 i (by omega)])⟩
      · rw [q 23 (by decide) (by decide)]; exact h1'
      · rw [q 23 (by decide) (by decide)]; exact h2'
      · rcases (show i = 0 ∨ i = 1 by omega) with rfl | rfl
        · exact i0
        · exact i1
      · rw [q 116 (by decide) (by decide)]; exact n0
      · rw [q 116 (by decide) (by decide)]; exact n2
      · rw [q 0 (by decide) (by decide), g0 0 (by decide) (by decide), f3 0 (by omega), f2 0 (by omega)]; exact a2
      · rw [q 0 (by decide) (by decide), g0 0 (by decide) (by decide), f3 0 (by omega), f2 0 (by omega)]; exact a3
      · rw [q 1 (by decide) (by decide), g0 1 (by decide) (by decide), f3 1 (by omega), f2 1 (by omega)]; exact a1
    have s1 : jw (d + 6) kX6_clan Q 42 [some (.ref 0), some (.int (nI (fk (.inr k : aR)))), some (.int (nI 1))] [] (ju y4 106 0 (nI 0)) := by
      iterate 2 refine jw_u rfl ?_
      refine jw_u rfl ⟨fun (c : nI 2 ≤ nI 1) => absurd c (by decide), fun _ => ?_⟩
      iterate 3 refine jw_u rfl ?_
      refine jw_u rfl ⟨vp_in_nI (show 1 < 2 by decide) (by decide), jrk_r (j := 111) rfl ?_⟩
      refine jw_u rfl ?_
      refine jw_u rfl ⟨fun _ => Or.inl rfl, ?_⟩
      iterate 2 refine jw_u rfl ?_
      rw [show nI 2 = nI 1 + nI 1 from nI_s 1] at fin
      exact fin
    iterate 2 refine jw_u rfl ?_
    iterate 2 refine jw_u rfl ?_
    refine jw_u rfl ⟨fun (c : nI 2 ≤ nI 0) => absurd c (by decide), fun _ => ?_⟩
    iterate 3 refine jw_u rfl ?_
    refine jw_u rfl ⟨vp_in_nI (show 0 < 2 by decide) (by decide), jrk_r (j := 106) rfl ?_⟩
    refine jw_u rfl ?_
    refine jw_u rfl ⟨fun _ => Or.inl rfl, ?_⟩
    iterate 2 refine jw_u rfl ?_
    rw [show nI 1 = nI 0 + nI 1 from nI_s 0] at s1
    exact s1
end CL
end
section
/-! THE REFERENCE: its small steps -/
theorem in_iff {m : Int32} {lo hi : Int64} {a b : Int} (h1 : lo.toInt = a) (h2 : hi.toInt = b) : (lo ≤ m.toInt64 ∧ m.toInt64 ≤ hi) ↔ (a ≤ m.toInt ∧ m.toInt ≤ b) := by
  rw [Int64.le_iff_toInt_le, Int64.le_iff_toInt_le, Int32.toInt_toInt64, h1, h2]
theorem ri {p : Int32} {n : Nat} (hn : n < 2 ^ 31) : (0 ≤ p ∧ p < nI n) ↔ (0 ≤ p.toInt ∧ p.toInt ≤ (n : Int) - 1) := by
  rw [Int32.le_iff_toInt_le, Int32.lt_iff_toInt_lt, nI_toInt hn]
  have : (0 : Int32).toInt = 0 := by decide
  omega
section MA
variable {d n : Nat} {x : jM} {Q : Option Value → jM → Prop} {hd sl : Nat → Nat}
theorem m_in0 {v lo hi : Int64} (h1 : lo ≤ v ∧ v ≤ hi → Q (some (.int (nI 1))) x) (h2 : ¬ (lo ≤ v ∧ v ≤ hi) → Q (some (.int (nI 0))) x) : jo (d + 1) 84 [.long v, .long lo, .long hi] x Q := by
  refine jo_i rfl rfl (Nat.le_of_ble_eq_true rfl) ?_
  iterate 3 refine jw_u rfl ?_
  refine jw_u rfl ⟨fun (c : lg_cmp v lo < 0) => ?_, fun (c : ¬ lg_cmp v lo < 0) => ?_⟩
  · rw [lg_cmp_lt] at c
    iterate 2 refine jw_u rfl ?_
    exact ⟨fun _ => Or.inl rfl, h2 (fun hc => lg_lt_not_le c hc.1)⟩
  · rw [lg_cmp_lt] at c
    iterate 3 refine jw_u rfl ?_
    refine jw_u rfl ⟨fun (c2 : 0 < lg_cmp v hi) => ?_, fun (c2 : ¬ 0 < lg_cmp v hi) => ?_⟩
    · rw [lg_cmp_gt] at c2
      iterate 2 refine jw_u rfl ?_
      exact ⟨fun _ => Or.inl rfl, h2 (fun hc => lg_lt_not_le c2 hc.2)⟩
    · rw [lg_cmp_gt] at c2
      iterate 3 refine jw_u rfl ?_
      exact ⟨fun _ => Or.inr rfl, h1 ⟨by simpa using c, by simpa using c2⟩⟩
theorem m_in {m : Int32} {lo hi : Int64} {a b : Int} (e1 : lo.toInt = a) (e2 : hi.toInt = b) (h1 : a ≤ m.toInt ∧ m.toInt ≤ b → Q (some (.int (nI 1))) x) (h2 : ¬ (a ≤ m.toInt ∧ m.toInt ≤ b) → Q (some (.int (nI 0))) x) : jo (d + 1) 84 [.long m.toInt64, .long lo, .long hi] x Q :=
  m_in0 (fun h => h1 ((in_iff e1 e2).mp h)) (fun h => h2 (fun h3 => h ((in_iff e1 e2).mpr h3)))
theorem m_isMark {p : Int32} (h1 : 0 ≤ p ∧ p < nI 1000 → Q (some (.int (nI 1))) x) (h2 : ¬ (0 ≤ p ∧ p < nI 1000) → Q (some (.int (nI 0))) x) : jo (d + 2) 88 [.int p] x Q := by
  rw [ri (by decide)] at h1 h2
  refine jo_i rfl rfl (Nat.le_of_ble_eq_true rfl) ?_
  iterate 5 refine jw_u rfl ?_
  refine m_in (a := 0) (b := 999) (by decide) (by decide) (fun h => ?_) (fun h => ?_)
  · refine jw_u rfl ?_
    exact ⟨fun _ => Or.inr rfl, h1 (by omega)⟩
  · refine jw_u rfl ?_
    exact ⟨fun _ => Or.inl rfl, h2 (by omega)⟩
theorem m_isPerson {p : Int32} (hn : x 121 5 = nI n) (h8 : n ≤ 8) (h1 : 0 ≤ p ∧ p < nI n → Q (some (.int (nI 1))) x) (h2 : ¬ (0 ≤ p ∧ p < nI n) → Q (some (.int (nI 0))) x) : jo (d + 2) 89 [.ref 121, .int p] x Q := by
  rw [ri (by omega)] at h1 h2
  refine jo_i rfl rfl (Nat.le_of_ble_eq_true rfl) ?_
  iterate 5 refine jw_u rfl ?_
  refine jtop hn ?_
  iterate 4 refine jw_u rfl ?_
  refine m_in (a := 0) (b := (n : Int) - 1) (by decide) (by rw [Int32.toInt_toInt64]; exact pk_sub_toInt (by omega) (by decide)) (fun h => ?_) (fun h => ?_)
  · refine jw_u rfl ?_
    exact ⟨fun _ => Or.inr rfl, h1 h⟩
  · refine jw_u rfl ?_
    exact ⟨fun _ => Or.inl rfl, h2 h⟩
theorem m_isPaper {p : Int32} (hn : x 122 1 = nI n) (h8 : n ≤ 8) (h1 : 0 ≤ p ∧ p < nI n → Q (some (.int (nI 1))) x) (h2 : ¬ (0 ≤ p ∧ p < nI n) → Q (some (.int (nI 0))) x) : jo (d + 2) 90 [.ref 121, .int p] x Q := by
  rw [ri (by omega)] at h1 h2
  refine jo_i rfl rfl (Nat.le_of_ble_eq_true rfl) ?_
  iterate 6 refine jw_u rfl ?_
  refine jw_u rfl (jaN (show 1 < 648 by decide) (by decide) hn ?_)
  iterate 4 refine jw_u rfl ?_
  refine m_in (a := 0) (b := (n : Int) - 1) (by decide) (by rw [Int32.toInt_toInt64]; exact pk_sub_toInt (by omega) (by decide)) (fun h => ?_) (fun h => ?_)
  · refine jw_u rfl ?_
    exact ⟨fun _ => Or.inr rfl, h1 h⟩
  · refine jw_u rfl ?_
    exact ⟨fun _ => Or.inl rfl, h2 h⟩
theorem m_isCandidate {p : Int32} (hn : x 121 8 = nI n) (h8 : n ≤ 4) (h1 : 0 ≤ p ∧ p < nI n → Q (some (.int (nI 1))) x) (h2 : ¬ (0 ≤ p ∧ p < nI n) → Q (some (.int (nI 0))) x) : jo (d + 2) 91 [.ref 121, .int p] x Q := by
  rw [ri (by omega)] at h1 h2
  refine jo_i rfl rfl (Nat.le_of_ble_eq_true rfl) ?_
  iterate 5 refine jw_u rfl ?_
  refine jtop hn ?_
  iterate 4 refine jw_u rfl ?_
  refine m_in (a := 0) (b := (n : Int) - 1) (by decide) (by rw [Int32.toInt_toInt64]; exact pk_sub_toInt (by omega) (by decide)) (fun h => ?_) (fun h => ?_)
  · refine jw_u rfl ?_
    exact ⟨fun _ => Or.inr rfl, h1 h⟩
  · refine jw_u rfl ?_
    exact ⟨fun _ => Or.inl rfl, h2 h⟩
theorem m_has {s p : Nat} (hs : s < 256) (hp : p < 8) (h1 : bt s p = 1 → Q (some (.int (nI 1))) x) (h2 : bt s p = 0 → Q (some (.int (nI 0))) x) : jo (d + 1) 85 [.int (nI s), .int (nI p)] x Q := by
  have b := bt_le s p
  refine jo_i rfl rfl (Nat.le_of_ble_eq_true rfl) ?_
  iterate 5 refine jw_u rfl ?_
  refine jtop (bit1 s hs p hp) ?_
  refine jw_u rfl ?_
  refine jw_u rfl ⟨fun (c : ¬ nI (bt s p) = nI 1) => ?_, fun (c : nI (bt s p) = nI 1) => ?_⟩
  · rw [nI_eq (by omega) (by decide)] at c
    iterate 2 refine jw_u rfl ?_
    exact ⟨fun _ => Or.inl rfl, h2 (by omega)⟩
  · rw [nI_eq (by omega) (by decide)] at c
    iterate 3 refine jw_u rfl ?_
    exact ⟨fun _ => Or.inr rfl, h1 c⟩
theorem m_ones {s : Nat} (hs : s < 256) (h : Q (some (.int (nI (pp s)))) x) : jo (d + 1) 86 [.int (nI s)] x Q := by
  have loop : ∀ i, i ≤ 8 → jw d kX7_ones Q 4 [some (.int (nI s)), some (.int (nI (cA (fun p => bt s p == 1) i))), some (.int (nI i))] [] x := by
    refine dn _ 8 ?_ (fun i hi ih => ?_)
    · iterate 2 refine jw_u rfl ?_
      refine jw_u rfl ⟨fun _ => ?_, fun (c' : ¬ nI 8 ≤ nI 8) => absurd (Int32.le_refl _) c'⟩
      iterate 2 refine jw_u rfl ?_
      exact ⟨fun h => (by cases h), h⟩
    · iterate 2 refine jw_u rfl ?_
      refine jw_u rfl ⟨fun (c' : nI 8 ≤ nI i) => absurd c' (nI_ge hi (by decide)), fun _ => ?_⟩
      iterate 6 refine jw_u rfl ?_
      refine jtop (bit1 s hs i hi) ?_
      refine jw_u rfl ?_
      refine jtop (v' := nI (cA (fun p => bt s p == 1) (i + 1))) ?_ ?_
      · rw [nI_add, cA]
        have b := bt_le s i
        rcases (show bt s i = 0 ∨ bt s i = 1 by omega) with e | e
        · simp [e]
        · simp [e]
      iterate 3 refine jw_u rfl ?_
      rw [nI_s i] at ih
      exact ih
  refine jo_i rfl rfl (Nat.le_of_ble_eq_true rfl) ?_
  iterate 4 refine jw_u rfl ?_
  exact loop 0 (Nat.zero_le _)
theorem m_copy {a b : Nat} (ha : a + 27 ≤ 648) (hb : b + 27 ≤ 648) (hd : a + 27 ≤ b ∨ b + 27 ≤ a) (h : ∀ x', (∀ i, i ≠ 122 → x' i = x i) → (∀ k, k < 27 → x' 122 (b + k) = x 122 (a + k)) → (∀ j, j < b ∨ b + 27 ≤ j → x' 122 j = x 122 j) → Q none x') : jo (d + 1) 87 [.ref 121, .int (nI a), .int (nI b)] x Q := by
  have loop : ∀ i, i ≤ 27 → ∀ y, (∀ i, i ≠ 122 → y i = x i) → (∀ k, k < i → y 122 (b + k) = x 122 (a + k)) → (∀ j, j < b ∨ b + i ≤ j → y 122 j = x 122 j) → jw d kX7_copy Q 2 [some (.ref 121), some (.int (nI a)), some (.int (nI b)), some (.int (nI i))] [] y := by
    refine dn _ 27 (fun y y1 y2 y3 => ?_) (fun i hi ih y y1 y2 y3 => ?_)
    · iterate 2 refine jw_u rfl ?_
      refine jw_u rfl ⟨fun _ => ?_, fun (c' : ¬ nI 27 ≤ nI 27) => absurd (Int32.le_refl _) c'⟩
      refine jw_u rfl ?_
      exact h y y1 y2 y3
    · iterate 2 refine jw_u rfl ?_
      refine jw_u rfl ⟨fun (c' : nI 27 ≤ nI i) => absurd c' (nI_ge hi (by decide)), fun _ => ?_⟩
      iterate 5 refine jw_u rfl ?_
      refine jtop (nI_add b i) ?_
      iterate 5 refine jw_u rfl ?_
      refine jtop (nI_add a i) ?_
      refine jw_u rfl (jaN (o := 122) (show a + i < 648 by omega) (by decide) (y3 (a + i) (by omega)) ?_)
      refine jw_u rfl (jsN (o := 122) (show b + i < 648 by omega) (by decide) ?_)
      iterate 2 refine jw_u rfl ?_
      have := ih (ju y 122 (b + i) (x 122 (a + i))) (fun k hk => by rw [ju_oo hk]; exact y1 k hk) (fun k hk => by
        by_cases e : k = i
        · subst e; exact ju_s _ _ _ _
        · rw [ju_k (by omega)]; exact y2 k (by omega)) (fun j hj => by rw [ju_k (by omega)]; exact y3 j (by omega))
      rw [nI_s i] at this
      exact this
  refine jo_i rfl rfl (Nat.le_of_ble_eq_true rfl) ?_
  iterate 2 refine jw_u rfl ?_
  exact loop 0 (Nat.zero_le _) x (fun _ _ => rfl) (fun k hk => absurd hk (Nat.not_lt_zero _)) (fun _ _ => rfl)
theorem m_partOf {a k : Nat} (ha : a < 1000) (hk : k < 3) (h : Q (some (.int (nI (dg a k)))) x) : jo (d + 1) 106 [.int (nI a), .int (nI k)] x Q := by
  refine jo_i rfl rfl (Nat.le_of_ble_eq_true rfl) ?_
  refine jw_u rfl ?_
  refine jw_u rfl ⟨fun (c : ¬ nI k = 0) => ?_, fun (c : nI k = 0) => ?_⟩
  · have k0 : ¬ k = 0 := fun e => c (by rw [e]; decide)
    iterate 2 refine jw_u rfl ?_
    refine jw_u rfl ⟨fun (c2 : ¬ nI k = nI 1) => ?_, fun (c2 : nI k = nI 1) => ?_⟩
    · have e : k = 2 := by
        have : ¬ k = 1 := fun e => c2 (by rw [e])
        omega
      subst e
      iterate 2 refine jw_u rfl ?_
      refine jw_u rfl ⟨by decide, ?_⟩
      refine jw_u rfl ?_
      exact ⟨fun h => (by cases h), jret (d3 ha) h⟩
    · have e : k = 1 := (nI_eq (by omega) (by decide)).mp c2
      subst e
      iterate 2 refine jw_u rfl ?_
      refine jw_u rfl ⟨by decide, ?_⟩
      refine jw_u rfl ?_
      refine jw_u rfl ⟨by decide, ?_⟩
      iterate 2 refine jw_u rfl ?_
      exact ⟨fun h => (by cases h), jret (d2 ha) h⟩
  · have e : k = 0 := (nI_eq (by omega) (by decide)).mp (c.trans n00.symm)
    subst e
    iterate 2 refine jw_u rfl ?_
    refine jw_u rfl ⟨by decide, ?_⟩
    iterate 2 refine jw_u rfl ?_
    exact ⟨fun h => (by cases h), jret (d1 ha) h⟩
theorem m_off {a b : Nat} (ha : a < 2 ^ 31) (hb : b < 2 ^ 31) (h : Q (some (.int (nI (ds a b)))) x) : jo (d + 1) 107 [.int (nI a), .int (nI b)] x Q := by
  unfold ds at h
  refine jo_i rfl rfl (Nat.le_of_ble_eq_true rfl) ?_
  iterate 2 refine jw_u rfl ?_
  refine jw_u rfl ⟨fun (c : nI b ≤ nI a) => ?_, fun (c : ¬ nI b ≤ nI a) => ?_⟩
  · rw [nI_leI hb ha] at c
    rw [if_neg (by omega)] at h
    iterate 4 refine jw_u rfl ?_
    exact ⟨fun h => (by cases h), jret (pk_sub c) h⟩
  · rw [nI_leI hb ha] at c
    rw [if_pos (by omega)] at h
    iterate 5 refine jw_u rfl ?_
    exact ⟨fun h => (by cases h), jret (pk_sub (by omega)) h⟩
def aps (a b : Nat) : Nat → Nat
  | 0 => 0
  | i + 1 => aps a b i + ds (dg a i) (dg b i)
theorem aps_3 (a b : Nat) : aps a b 3 = ap a b := by simp [aps, ap, dg]
theorem m_apart {a b : Nat} (ha : a < 1000) (hb : b < 1000) (h : Q (some (.int (nI (ap a b)))) x) : jo (d + 2) 108 [.int (nI a), .int (nI b)] x Q := by
  have loop : ∀ i, i ≤ 3 → jw (d + 1) kX7_apart Q 4 [some (.int (nI a)), some (.int (nI b)), some (.int (nI (aps a b i))), some (.int (nI i))] [] x := by
    refine dn _ 3 ?_ (fun i hi ih => ?_)
    · iterate 2 refine jw_u rfl ?_
      refine jw_u rfl ⟨fun _ => ?_, fun (c' : ¬ nI 3 ≤ nI 3) => absurd (Int32.le_refl _) c'⟩
      iterate 2 refine jw_u rfl ?_
      exact ⟨fun h => (by cases h), jret (by rw [aps_3]) h⟩
    · have g1 := dg_lt (k := i) ha
      have g2 := dg_lt (k := i) hb
      iterate 2 refine jw_u rfl ?_
      refine jw_u rfl ⟨fun (c' : nI 3 ≤ nI i) => absurd c' (nI_ge hi (by decide)), fun _ => ?_⟩
      iterate 4 refine jw_u rfl ?_
      refine m_partOf ha hi ?_
      iterate 3 refine jw_u rfl ?_
      refine m_partOf hb hi ?_
      refine jw_u rfl ?_
      refine m_off (by omega) (by omega) ?_
      refine jw_u rfl ?_
      refine jtop (nI_add _ _) ?_
      iterate 3 refine jw_u rfl ?_
      rw [nI_s i] at ih
      exact ih
  refine jo_i rfl rfl (Nat.le_of_ble_eq_true rfl) ?_
  iterate 4 refine jw_u rfl ?_
  exact loop 0 (Nat.zero_le _)
def nrs (a b t : Nat) : Nat → Bool
  | 0 => true
  | i + 1 => nrs a b t i && decide (ds (dg a i) (dg b i) ≤ t)
theorem nrs_3 (a b t : Nat) : nrs a b t 3 = nr a b t := by simp [nrs, nr, dg, Bool.and_assoc]
def nB (b : Bool) : Int32 := if b = true then nI 1 else nI 0
theorem m_isNear {a b t : Nat} (ha : a < 1000) (hb : b < 1000) (ht : t < 100) (h1 : nr a b t = true → Q (some (.int (nI 1))) x) (h2 : nr a b t = false → Q (some (.int (nI 0))) x) : jo (d + 2) 109 [.int (nI a), .int (nI b), .int (nI t)] x Q := by
  have loop : ∀ i, i ≤ 3 → jw (d + 1) kX7_isNear Q 4 [some (.int (nI a)), some (.int (nI b)), some (.int (nI t)), some (.int (nB (nrs a b t i))), some (.int (nI i))] [] x := by
    refine dn _ 3 ?_ (fun i hi ih => ?_)
    · iterate 2 refine jw_u rfl ?_
      refine jw_u rfl ⟨fun _ => ?_, fun (c' : ¬ nI 3 ≤ nI 3) => absurd (Int32.le_refl _) c'⟩
      iterate 2 refine jw_u rfl ?_
      rw [nrs_3]
      cases hn : nr a b t with
      | true => exact ⟨fun _ => Or.inr rfl, h1 hn⟩
      | false => exact ⟨fun _ => Or.inl rfl, h2 hn⟩
    · have g1 := dg_lt (k := i) ha
      have g2 := dg_lt (k := i) hb
      have g3 : ds (dg a i) (dg b i) < 100 := by unfold ds; split <;> omega
      rw [nI_s i, nrs] at ih
      iterate 2 refine jw_u rfl ?_
      refine jw_u rfl ⟨fun (c' : nI 3 ≤ nI i) => absurd c' (nI_ge hi (by decide)), fun _ => ?_⟩
      refine jw_u rfl ?_
      cases hn : nrs a b t i with
      | false =>
        rw [hn] at ih
        refine jw_u rfl ⟨fun _ => ?_, fun c => absurd n00 c⟩
        iterate 4 refine jw_u rfl ?_
        exact ih
      | true =>
        rw [hn, Bool.true_and] at ih
        refine jw_u rfl ⟨fun c => absurd c n10, fun _ => ?_⟩
        iterate 3 refine jw_u rfl ?_
        refine m_partOf ha hi ?_
        iterate 3 refine jw_u rfl ?_
        refine m_partOf hb hi ?_
        refine jw_u rfl ?_
        refine m_off (by omega) (by omega) ?_
        refine jw_u rfl ?_
        refine jw_u rfl ⟨fun (c : nI t < nI (ds (dg a i) (dg b i))) => ?_, fun (c : ¬ nI t < nI (ds (dg a i) (dg b i))) => ?_⟩
        · rw [nI_ltI (by omega) (by omega)] at c
          rw [decide_eq_false (by omega)] at ih
          iterate 4 refine jw_u rfl ?_
          exact ih
        · rw [nI_ltI (by omega) (by omega)] at c
          rw [decide_eq_true (by omega)] at ih
          iterate 5 refine jw_u rfl ?_
          exact ih
  refine jo_i rfl rfl (Nat.le_of_ble_eq_true rfl) ?_
  iterate 4 refine jw_u rfl ?_
  exact loop 0 (Nat.zero_le _)
theorem m_passesFor {a j : Nat} (h8 : n ≤ 8) (hh : ∀ k, k < n → x 122 (2 + k) = nI (hd k)) (hs : ∀ k, k < n → x 124 k = nI (sl k)) (bh : ∀ k, k < n → hd k < 1000) (bs : ∀ k, k < n → sl k ≤ 3) (ha : a < 1000) (hj : j < n) (h1 : nr a (hd j) (sl j) = true → Q (some (.int (nI 1))) x) (h2 : nr a (hd j) (sl j) = false → Q (some (.int (nI 0))) x) : jo (d + 3) 110 [.ref 121, .int (nI a), .int (nI j)] x Q := by
  have b1 := bs j hj
  refine jo_i rfl rfl (Nat.le_of_ble_eq_true rfl) ?_
  iterate 6 refine jw_u rfl ?_
  refine jtop (nI_add 2 j) ?_
  refine jw_u rfl (jaN (o := 122) (show 2 + j < 648 by omega) (by decide) (hh j hj) ?_)
  iterate 3 refine jw_u rfl ?_
  refine jw_u rfl (jaN (o := 124) (show j < 8 by omega) (by decide) (hs j hj) ?_)
  refine jw_u rfl ?_
  refine m_isNear ha (bh j hj) (by omega) (fun hw => ?_) (fun hw => ?_)
  · refine jw_u rfl ?_
    exact ⟨fun _ => Or.inr rfl, h1 hw⟩
  · refine jw_u rfl ?_
    exact ⟨fun _ => Or.inl rfl, h2 hw⟩
end MA
end
section
/-! THE REFERENCE: what its cells say; small questions -/
def mC (x : jM) (C : aC) : Prop := x 121 3 = nI (cT C) ∧ x 121 4 = nI (cG C) ∧ x 121 5 = nI (cN C) ∧ x 121 8 = nI (cC C) ∧ (∀ k, k < cN C → x 124 k = nI (cSl C k)) ∧ (∀ k, k < cN C → x 125 k = nI (cDr C k)) ∧ (∀ k, k < cC C → x 126 k = nI (cSq C k))
/-- the state in the block r -/
def mS (x : jM) (r n : Nat) (S : aS) : Prop := (∀ k, k < n → x 122 (r + 2 + k) = nI (sH S k)) ∧ x 122 (r + 1) = nI (sP S) ∧ (∀ k, k < sP S → x 122 (r + 10 + k) = nI (sM S k)) ∧ (∀ k, k < sP S → x 122 (r + 18 + k) = nI (sN S k)) ∧ x 122 r = nI (sY S)
theorem or0 (v : Int32) : v ||| nI 0 = v := by rw [n00]; simp
theorem tI0 {w : Int32} : w = 0 ↔ w.toInt = 0 := ⟨fun e => by rw [e]; decide, fun e => Int32.toInt_inj.mp (e.trans (by decide))⟩
theorem tI1 {w : Int32} : w = nI 1 ↔ w.toInt = 1 := ⟨fun e => by rw [e]; decide, fun e => Int32.toInt_inj.mp (e.trans (by decide))⟩
theorem nm1 {b : Nat} (hb : b < 2 ^ 31) : ¬ nI b = jc (-1) := by
  intro e
  rw [jm1] at e
  have : nI b < 0 := by rw [e]; decide
  exact nI_pos hb this
section MB
variable {d : Nat} {x : jM} {Q : Option Value → jM → Prop} {C : aC} {S : aS}
theorem m_fault (h : Q (some (.int (x 121 16))) x) : jo (d + 1) 104 [.ref 121] x Q := by
  refine jo_i rfl rfl (Nat.le_of_ble_eq_true rfl) ?_
  iterate 3 refine jw_u rfl ?_
  exact ⟨fun h => (by cases h), h⟩
theorem m_told {w : Int32} {tl sc ec hl : Nat} (hC : mC x C) (hS : mS x 0 (cN C) S) (bT : cT C ≤ 1) (h5 : x 121 11 = nI tl) (h7 : x 121 27 = nI sc) (h8 : x 121 29 = nI ec) (h9 : x 121 2 = nI hl) (h : Q (some (.int (fTold C S tl sc ec hl w.toInt))) x) : jo (d + 1) 105 [.ref 121, .int w] x Q := by
  obtain ⟨c1, c2, c3, c4, -⟩ := hC
  obtain ⟨-, s2, -, -, s5⟩ := hS
  refine jo_i rfl rfl (Nat.le_of_ble_eq_true rfl) ?_
  iterate 2 refine jw_u rfl ?_
  unfold fTold at h
  refine ⟨fun (e : w.toInt = 0) => ?_, fun (e0 : ¬ w.toInt = 0) => ⟨fun (e : w.toInt = 1) => ?_, fun (e1 : ¬ w.toInt = 1) => ⟨fun (e : w.toInt = 2) => ?_, fun (e2 : ¬ w.toInt = 2) => ⟨fun (e : w.toInt = 3) => ?_, fun (e3 : ¬ w.toInt = 3) => ⟨fun (e : w.toInt = 4) => ?_, fun (e4 : ¬ w.toInt = 4) => ⟨fun (e : w.toInt = 5) => ?_, fun (e5 : ¬ w.toInt = 5) => ⟨fun (e : w.toInt = 6) => ?_, fun (e6 : ¬ w.toInt = 6) => ⟨fun (e : w.toInt = 7) => ?_, fun (e7 : ¬ w.toInt = 7) => ⟨fun (e : w.toInt = 8) => ?_, fun (e8 : ¬ w.toInt = 8) => ⟨fun (e : w.toInt = 9) => ?_, fun (e9 : ¬ w.toInt = 9) => ?_⟩⟩⟩⟩⟩⟩⟩⟩⟩⟩
  · rw [if_pos e] at h
    iterate 2 refine jw_u rfl ?_
    refine jtop c1 ?_
    refine jw_u rfl ⟨fun (c : nI (cT C) = 0) => ?_, fun (c : ¬ nI (cT C) = 0) => ?_⟩
    · iterate 2 refine jw_u rfl ?_
      exact ⟨fun h => (by cases h), jret (c.trans n00.symm).symm h⟩
    · have e : cT C = 1 := by
        rcases (show cT C = 0 ∨ cT C = 1 by omega) with e | e
        · rw [e] at c
          exact absurd n00 c
        · exact e
      rw [e] at h
      iterate 3 refine jw_u rfl ?_
      exact ⟨fun h => (by cases h), h⟩
  · rw [if_neg e0, if_pos e] at h
    iterate 3 refine jw_u rfl ?_
    exact ⟨fun h => (by cases h), jret c2 h⟩
  · rw [if_neg e0, if_neg e1, if_pos e] at h
    iterate 3 refine jw_u rfl ?_
    exact ⟨fun h => (by cases h), jret c3 h⟩
  · rw [if_neg e0, if_neg e1, if_neg e2, if_pos e] at h
    iterate 3 refine jw_u rfl ?_
    refine jw_u rfl (jaN (o := 122) (show 1 < 648 by decide) (by decide) s2 ?_)
    refine jw_u rfl ?_
    exact ⟨fun h => (by cases h), h⟩
  · rw [if_neg e0, if_neg e1, if_neg e2, if_neg e3, if_pos e] at h
    iterate 3 refine jw_u rfl ?_
    exact ⟨fun h => (by cases h), jret c4 h⟩
  · rw [if_neg e0, if_neg e1, if_neg e2, if_neg e3, if_neg e4, if_pos e] at h
    iterate 3 refine jw_u rfl ?_
    exact ⟨fun h => (by cases h), jret h5 h⟩
  · rw [if_neg e0, if_neg e1, if_neg e2, if_neg e3, if_neg e4, if_neg e5, if_pos e] at h
    iterate 3 refine jw_u rfl ?_
    refine jw_u rfl (jaN (o := 122) (show 0 < 648 by decide) (by decide) s5 ?_)
    refine jw_u rfl ?_
    exact ⟨fun h => (by cases h), h⟩
  · rw [if_neg e0, if_neg e1, if_neg e2, if_neg e3, if_neg e4, if_neg e5, if_neg e6, if_pos e] at h
    iterate 3 refine jw_u rfl ?_
    exact ⟨fun h => (by cases h), jret h7 h⟩
  · rw [if_neg e0, if_neg e1, if_neg e2, if_neg e3, if_neg e4, if_neg e5, if_neg e6, if_neg e7, if_pos e] at h
    iterate 3 refine jw_u rfl ?_
    exact ⟨fun h => (by cases h), jret h8 h⟩
  · rw [if_neg e0, if_neg e1, if_neg e2, if_neg e3, if_neg e4, if_neg e5, if_neg e6, if_neg e7, if_neg e8, if_pos e] at h
    iterate 3 refine jw_u rfl ?_
    exact ⟨fun h => (by cases h), jret h9 h⟩
  · rw [if_neg e0, if_neg e1, if_neg e2, if_neg e3, if_neg e4, if_neg e5, if_neg e6, if_neg e7, if_neg e8, if_neg e9] at h
    iterate 2 refine jw_u rfl ?_
    exact ⟨fun h => (by cases h), h⟩
theorem m_person {p w : Int32} (hC : mC x C) (hS : mS x 0 (cN C) S) (wc : wC C) (ws : wS (cN C) S) (h : Q (some (.int (fPerson C S p w))) x) : jo (d + 3) 111 [.ref 121, .int p, .int w] x Q := by
  obtain ⟨c1, c2, c3, c4, c5, c6, -⟩ := hC
  obtain ⟨s1, -⟩ := hS
  obtain ⟨-, b2, b3, -⟩ := wc
  obtain ⟨w1, -⟩ := ws
  refine jo_i rfl rfl (Nat.le_of_ble_eq_true rfl) ?_
  iterate 3 refine jw_u rfl ?_
  unfold fPerson at h
  refine m_isPerson c3 b3 (fun hp => ?_) (fun hp => ?_)
  · refine jw_u rfl ⟨fun _ => ?_, fun c => absurd c n10⟩
    rw [if_pos hp] at h
    obtain ⟨j, hj, rfl⟩ := ilt (by omega) hp
    rw [nI_clamp (by omega)] at h
    iterate 2 refine jw_u rfl ?_
    refine ⟨fun (e : w.toInt = 0) => ?_, fun (e0 : ¬ w.toInt = 0) => ⟨fun (e : w.toInt = 1) => ?_, fun (e1 : ¬ w.toInt = 1) => ⟨fun (e : w.toInt = 2) => ?_, fun (e2 : ¬ w.toInt = 2) => ⟨fun (e : w.toInt = 3) => ?_, fun (e3 : ¬ w.toInt = 3) => ?_⟩⟩⟩⟩
    · rw [if_pos e] at h
      iterate 5 refine jw_u rfl ?_
      refine jtop (nI_add 2 j) ?_
      refine jw_u rfl (jaN (o := 122) (show 2 + j < 648 by omega) (by decide) (s1 j hj) ?_)
      refine jw_u rfl ?_
      exact ⟨fun h => (by cases h), h⟩
    · rw [if_neg e0, if_pos e] at h
      iterate 3 refine jw_u rfl ?_
      refine jw_u rfl (jaN (o := 124) (show j < 8 by omega) (by decide) (c5 j hj) ?_)
      refine jw_u rfl ?_
      exact ⟨fun h => (by cases h), h⟩
    · rw [if_neg e0, if_neg e1, if_pos e] at h
      iterate 3 refine jw_u rfl ?_
      refine jw_u rfl (jaN (o := 125) (show j < 8 by omega) (by decide) (c6 j hj) ?_)
      refine jw_u rfl ?_
      exact ⟨fun h => (by cases h), h⟩
    · rw [if_neg e0, if_neg e1, if_neg e2, if_pos e] at h
      iterate 5 refine jw_u rfl ?_
      refine jtop (nI_add 2 j) ?_
      refine jw_u rfl (jaN (o := 122) (show 2 + j < 648 by omega) (by decide) (s1 j hj) ?_)
      iterate 2 refine jw_u rfl ?_
      refine jtop c2 ?_
      refine jw_u rfl ?_
      refine m_apart (w1 j hj) b2 ?_
      refine jw_u rfl ?_
      exact ⟨fun h => (by cases h), h⟩
    · rw [if_neg e0, if_neg e1, if_neg e2, if_neg e3] at h
      iterate 2 refine jw_u rfl ?_
      exact ⟨fun h => (by cases h), h⟩
  · refine jw_u rfl ⟨fun c => absurd n00 c, fun _ => ?_⟩
    rw [if_neg hp] at h
    iterate 2 refine jw_u rfl ?_
    exact ⟨fun h => (by cases h), h⟩
theorem m_paper {p w : Int32} {n : Nat} (hS : mS x 0 n S) (ws : wS n S) (h : Q (some (.int (fPaper S p w))) x) : jo (d + 3) 112 [.ref 121, .int p, .int w] x Q := by
  obtain ⟨-, s2, s3, s4, -⟩ := hS
  obtain ⟨-, w2, -⟩ := ws
  refine jo_i rfl rfl (Nat.le_of_ble_eq_true rfl) ?_
  iterate 3 refine jw_u rfl ?_
  unfold fPaper at h
  refine m_isPaper s2 w2 (fun hp => ?_) (fun hp => ?_)
  · refine jw_u rfl ⟨fun _ => ?_, fun c => absurd c n10⟩
    rw [if_pos hp] at h
    obtain ⟨j, hj, rfl⟩ := ilt (by omega) hp
    rw [nI_clamp (by omega)] at h
    refine jw_u rfl ?_
    refine jw_u rfl ⟨fun (c : ¬ w = 0) => ?_, fun (c : w = 0) => ?_⟩
    · rw [tI0] at c
      rw [if_neg c] at h
      iterate 2 refine jw_u rfl ?_
      refine jw_u rfl ⟨fun (c2 : ¬ w = nI 1) => ?_, fun (c2 : w = nI 1) => ?_⟩
      · rw [tI1] at c2
        rw [if_neg c2] at h
        iterate 2 refine jw_u rfl ?_
        exact ⟨fun h => (by cases h), h⟩
      · rw [tI1] at c2
        rw [if_pos c2] at h
        iterate 5 refine jw_u rfl ?_
        refine jtop (nI_add 18 j) ?_
        refine jw_u rfl (jaN (o := 122) (show 18 + j < 648 by omega) (by decide) (s4 j hj) ?_)
        iterate 2 refine jw_u rfl ?_
        exact ⟨fun h => (by cases h), h⟩
    · rw [tI0] at c
      rw [if_pos c] at h
      iterate 5 refine jw_u rfl ?_
      refine jtop (nI_add 10 j) ?_
      refine jw_u rfl (jaN (o := 122) (show 10 + j < 648 by omega) (by decide) (s3 j hj) ?_)
      iterate 2 refine jw_u rfl ?_
      exact ⟨fun h => (by cases h), h⟩
  · refine jw_u rfl ⟨fun c => absurd n00 c, fun _ => ?_⟩
    rw [if_neg hp] at h
    iterate 2 refine jw_u rfl ?_
    exact ⟨fun h => (by cases h), h⟩
theorem m_candidate {p : Int32} (hC : mC x C) (wc : wC C) (h : Q (some (.int (fCand C p))) x) : jo (d + 3) 113 [.ref 121, .int p] x Q := by
  obtain ⟨-, -, -, c4, -, -, c7⟩ := hC
  obtain ⟨-, -, -, b4, -⟩ := wc
  refine jo_i rfl rfl (Nat.le_of_ble_eq_true rfl) ?_
  iterate 3 refine jw_u rfl ?_
  unfold fCand at h
  refine m_isCandidate c4 b4 (fun hp => ?_) (fun hp => ?_)
  · refine jw_u rfl ⟨fun c => absurd c n10, fun _ => ?_⟩
    rw [if_pos hp] at h
    obtain ⟨j, hj, rfl⟩ := ilt (by omega) hp
    rw [nI_clamp (by omega)] at h
    iterate 3 refine jw_u rfl ?_
    refine jw_u rfl (jaN (o := 126) (show j < 4 by omega) (by decide) (c7 j hj) ?_)
    iterate 2 refine jw_u rfl ?_
    exact ⟨fun h => (by cases h), h⟩
  · refine jw_u rfl ⟨fun _ => ?_, fun c => absurd n00 c⟩
    rw [if_neg hp] at h
    iterate 2 refine jw_u rfl ?_
    exact ⟨fun h => (by cases h), h⟩
end MB
section MC
variable {d n : Nat} {x : jM} {Q : Option Value → jM → Prop} {hd sl sq : Nat → Nat}
theorem m_whoseIs {a : Nat} (hn : x 121 5 = nI n) (h8 : n ≤ 8) (hh : ∀ k, k < n → x 122 (2 + k) = nI (hd k)) (hs : ∀ k, k < n → x 124 k = nI (sl k)) (bh : ∀ k, k < n → hd k < 1000) (bs : ∀ k, k < n → sl k ≤ 3) (ha : a < 1000) (h : Q (some (.int (sb (fun j => nr a (hd j) (sl j)) n))) x) : jo (d + 4) 124 [.ref 121, .int (nI a)] x Q := by
  have loop : ∀ i, i ≤ n → jw (d + 3) kX7_whoseIs Q 4 [some (.ref 121), some (.int (nI a)), some (.int (sb (fun j => nr a (hd j) (sl j)) i)), some (.int (nI i))] [] x := by
    refine dn _ n ?_ (fun i hi ih => ?_)
    · iterate 3 refine jw_u rfl ?_
      refine jw_u rfl ⟨fun _ => ?_, fun (c : ¬ x 121 5 ≤ nI n) => absurd (by rw [hn]; exact Int32.le_refl _) c⟩
      iterate 2 refine jw_u rfl ?_
      exact ⟨fun h => (by cases h), h⟩
    · iterate 3 refine jw_u rfl ?_
      refine jw_u rfl ⟨fun (c : x 121 5 ≤ nI i) => absurd c (by rw [hn]; exact nI_ge hi (by omega)), fun _ => ?_⟩
      iterate 5 refine jw_u rfl ?_
      refine m_passesFor h8 hh hs bh bs ha hi (fun hw => ?_) (fun hw => ?_)
      · refine jw_u rfl ⟨fun c => absurd c n10, fun _ => ?_⟩
        iterate 8 refine jw_u rfl ?_
        rw [sb, if_pos hw, nI_s i] at ih
        exact ih
      · refine jw_u rfl ⟨fun _ => ?_, fun c => absurd rfl c⟩
        iterate 2 refine jw_u rfl ?_
        refine jtop (or0 _) ?_
        iterate 3 refine jw_u rfl ?_
        rw [sb, if_neg (by rw [hw]; decide), nI_s i] at ih
        exact ih
  refine jo_i rfl rfl (Nat.le_of_ble_eq_true rfl) ?_
  iterate 4 refine jw_u rfl ?_
  exact loop 0 (Nat.zero_le _)
theorem m_marksOf {p : Nat} (h8 : n ≤ 8) (hh : ∀ k, k < n → x 122 (2 + k) = nI (hd k)) (hs : ∀ k, k < n → x 124 k = nI (sl k)) (bh : ∀ k, k < n → hd k < 1000) (bs : ∀ k, k < n → sl k ≤ 3) (hp : p < n) (h : Q (some (.int (nI (pcn (hd p) (sl p) 3)))) x) : jo (d + 2) 126 [.ref 121, .int (nI p)] x Q := by
  have b1 := bs p hp
  have loop : ∀ i, i ≤ 3 → ∀ g4 g5 g6, jw (d + 1) kX7_marksOf Q 4 [some (.ref 121), some (.int (nI p)), some (.int (nI (pcn (hd p) (sl p) i))), some (.int (nI i)), some (.int g4), some (.int g5), some (.int g6)] [] x ∧ jw (d + 1) kX7_marksOf Q 4 [some (.ref 121), some (.int (nI p)), some (.int (nI (pcn (hd p) (sl p) i))), some (.int (nI i)), none, none, none] [] x := by
    have key : ∀ i, i ≤ 3 → ∀ g4 g5 g6 : Option Value, (∀ v, jsv [some (.ref 121), some (.int (nI p)), some (.int v), some (.int (nI i)), g4, g5, g6] 4 = true ∧ jsv [some (.ref 121), some (.int (nI p)), some (.int v), some (.int (nI i)), some (.int v), g5, g6] 5 = true ∧ jsv [some (.ref 121), some (.int (nI p)), some (.int v), some (.int (nI i)), some (.int v), some (.int v), g6] 6 = true) → True := fun _ _ _ _ _ _ => trivial
    refine dn _ 3 (fun g4 g5 g6 => ?_) (fun i hi ih g4 g5 g6 => ?_)
    · constructor
      · iterate 2 refine jw_u rfl ?_
        refine jw_u rfl ⟨fun _ => ?_, fun (c' : ¬ nI 3 ≤ nI 3) => absurd (Int32.le_refl _) c'⟩
        iterate 2 refine jw_u rfl ?_
        exact ⟨fun h => (by cases h), h⟩
      · iterate 2 refine jw_u rfl ?_
        refine jw_u rfl ⟨fun _ => ?_, fun (c' : ¬ nI 3 ≤ nI 3) => absurd (Int32.le_refl _) c'⟩
        iterate 2 refine jw_u rfl ?_
        exact ⟨fun h => (by cases h), h⟩
    · have b2 : dg (hd p) i < 10 := dg_lt (bh p hp)
      generalize hv : dg (hd p) i = v at b2
      have fin : ∀ lo hi g6, lo = max (v - sl p) 0 → hi = min (v + sl p) 9 → jw (d + 1) kX7_marksOf Q 47 [some (.ref 121), some (.int (nI p)), some (.int (nI (pcn (hd p) (sl p) i))), some (.int (nI i)), some (.int (nI v)), some (.int (nI lo)), g6] [.int (nI hi)] x := by
        intro lo hi g6 elo ehi
        have ih := (ih (nI v) (nI lo) (nI hi)).1
        rw [pcn, hv, ← elo, ← ehi, nI_s i] at ih
        have e1 : lo ≤ hi := by omega
        iterate 4 refine jw_u rfl ?_
        refine jw_u rfl ?_
        refine jtop (pk_sub e1) ?_
        iterate 2 refine jw_u rfl ?_
        refine jtop (nI_add _ 1) ?_
        refine jw_u rfl ?_
        refine jtop (pk_mul _ _) ?_
        iterate 3 refine jw_u rfl ?_
        exact ih
      have mid : ∀ lo g5 g6, lo = max (v - sl p) 0 → jw (d + 1) kX7_marksOf Q 30 [some (.ref 121), some (.int (nI p)), some (.int (nI (pcn (hd p) (sl p) i))), some (.int (nI i)), some (.int (nI v)), g5, g6] [.int (nI lo)] x := by
        intro lo g5 g6 elo
        iterate 5 refine jw_u rfl ?_
        refine jw_u rfl (jaN (o := 124) (show p < 8 by omega) (by decide) (hs p hp) ?_)
        refine jw_u rfl ?_
        refine jtop (nI_add _ _) ?_
        refine jw_u rfl ?_
        refine jw_u rfl ⟨fun (c : nI (v + sl p) ≤ nI 9) => ?_, fun (c : ¬ nI (v + sl p) ≤ nI 9) => ?_⟩
        · rw [nI_leI (by omega) (by decide)] at c
          iterate 4 refine jw_u rfl ?_
          refine jw_u rfl (jaN (o := 124) (show p < 8 by omega) (by decide) (hs p hp) ?_)
          refine jw_u rfl ?_
          refine jtop (nI_add _ _) ?_
          exact fin lo (v + sl p) g6 elo (by omega)
        · rw [nI_leI (by omega) (by decide)] at c
          iterate 2 refine jw_u rfl ?_
          exact fin lo 9 g6 elo (by omega)
      constructor
      · iterate 2 refine jw_u rfl ?_
        refine jw_u rfl ⟨fun (c' : nI 3 ≤ nI i) => absurd c' (nI_ge hi (by omega)), fun _ => ?_⟩
        iterate 5 refine jw_u rfl ?_
        refine jtop (nI_add 2 p) ?_
        refine jw_u rfl (jaN (o := 122) (show 2 + p < 648 by omega) (by decide) (hh p hp) ?_)
        iterate 2 refine jw_u rfl ?_
        refine m_partOf (bh p hp) hi ?_
        rw [hv]
        iterate 5 refine jw_u rfl ?_
        refine jw_u rfl (jaN (o := 124) (show p < 8 by omega) (by decide) (hs p hp) ?_)
        refine jw_u rfl ⟨fun (c : nI (sl p) ≤ nI v) => ?_, fun (c : ¬ nI (sl p) ≤ nI v) => ?_⟩
        · rw [nI_leI (by omega) (by omega)] at c
          iterate 4 refine jw_u rfl ?_
          refine jw_u rfl (jaN (o := 124) (show p < 8 by omega) (by decide) (hs p hp) ?_)
          refine jw_u rfl ?_
          refine jtop (pk_sub c) ?_
          exact mid (v - sl p) _ _ (by omega)
        · rw [nI_leI (by omega) (by omega)] at c
          iterate 2 refine jw_u rfl ?_
          exact mid 0 _ _ (by omega)
      · iterate 2 refine jw_u rfl ?_
        refine jw_u rfl ⟨fun (c' : nI 3 ≤ nI i) => absurd c' (nI_ge hi (by omega)), fun _ => ?_⟩
        iterate 5 refine jw_u rfl ?_
        refine jtop (nI_add 2 p) ?_
        refine jw_u rfl (jaN (o := 122) (show 2 + p < 648 by omega) (by decide) (hh p hp) ?_)
        iterate 2 refine jw_u rfl ?_
        refine m_partOf (bh p hp) hi ?_
        rw [hv]
        iterate 5 refine jw_u rfl ?_
        refine jw_u rfl (jaN (o := 124) (show p < 8 by omega) (by decide) (hs p hp) ?_)
        refine jw_u rfl ⟨fun (c : nI (sl p) ≤ nI v) => ?_, fun (c : ¬ nI (sl p) ≤ nI v) => ?_⟩
        · rw [nI_leI (by omega) (by omega)] at c
          iterate 4 refine jw_u rfl ?_
          refine jw_u rfl (jaN (o := 124) (show p < 8 by omega) (by decide) (hs p hp) ?_)
          refine jw_u rfl ?_
          refine jtop (pk_sub c) ?_
          exact mid (v - sl p) _ _ (by omega)
        · rw [nI_leI (by omega) (by omega)] at c
          iterate 2 refine jw_u rfl ?_
          exact mid 0 _ _ (by omega)
  refine jo_i rfl rfl (Nat.le_of_ble_eq_true rfl) ?_
  iterate 4 refine jw_u rfl ?_
  exact (loop 0 (Nat.zero_le _) 0 0 0).2
end MC
end
section
/-! THE REFERENCE: who is nearest, told apart, votes -/
section MD
variable {d n : Nat} {x : jM} {Q : Option Value → jM → Prop} {hd sl sq : Nat → Nat}
theorem m_between {p q : Nat} (h8 : n ≤ 8) (hh : ∀ k, k < n → x 122 (2 + k) = nI (hd k)) (bh : ∀ k, k < n → hd k < 1000) (hp : p < n) (hq : q < n) (h : Q (some (.int (nI (ap (hd p) (hd q))))) x) : jo (d + 3) 129 [.ref 121, .int (nI p), .int (nI q)] x Q := by
  refine jo_i rfl rfl (Nat.le_of_ble_eq_true rfl) ?_
  iterate 5 refine jw_u rfl ?_
  refine jtop (nI_add 2 p) ?_
  refine jw_u rfl (jaN (o := 122) (show 2 + p < 648 by omega) (by decide) (hh p hp) ?_)
  iterate 5 refine jw_u rfl ?_
  refine jtop (nI_add 2 q) ?_
  refine jw_u rfl (jaN (o := 122) (show 2 + q < 648 by omega) (by decide) (hh q hq) ?_)
  refine jw_u rfl ?_
  refine m_apart (bh p hp) (bh q hq) ?_
  refine jw_u rfl ?_
  exact ⟨fun h => (by cases h), h⟩
theorem m_kinOf {p : Nat} (hn : x 121 5 = nI n) (h8 : n ≤ 8) (hh : ∀ k, k < n → x 122 (2 + k) = nI (hd k)) (bh : ∀ k, k < n → hd k < 1000) (hp : p < n) (h : Q (some (.int (oI (am (fun k => ap (hd p) (hd k)) (fun k => k != p) n)))) x) : jo (d + 4) 131 [.ref 121, .int (nI p)] x Q := by
  have bf : ∀ k, k < n → ap (hd p) (hd k) ≤ 27 := fun k hk => ap_lt (bh p hp) (bh k hk)
  have loop : ∀ i, i ≤ n → jw (d + 3) kX7_kinOf Q 4 [some (.ref 121), some (.int (nI p)), some (.int (oI (am (fun k => ap (hd p) (hd k)) (fun k => k != p) i))), some (.int (nI i))] [] x := by
    refine dn _ n ?_ (fun i hi ih => ?_)
    · iterate 3 refine jw_u rfl ?_
      refine jw_u rfl ⟨fun _ => ?_, fun (c : ¬ x 121 5 ≤ nI n) => absurd (by rw [hn]; exact Int32.le_refl _) c⟩
      iterate 2 refine jw_u rfl ?_
      exact ⟨fun h => (by cases h), h⟩
    · have q2 := bf i hi
      rw [nI_s i] at ih
      iterate 3 refine jw_u rfl ?_
      refine jw_u rfl ⟨fun (c : x 121 5 ≤ nI i) => absurd c (by rw [hn]; exact nI_ge hi (by omega)), fun _ => ?_⟩
      iterate 2 refine jw_u rfl ?_
      refine jw_u rfl ⟨fun (c : nI i = nI p) => ?_, fun (c : ¬ nI i = nI p) => ?_⟩
      · rw [nI_eq (by omega) (by omega)] at c
        rw [am_no (f := fun k => ap (hd p) (hd k)) (ok := fun k => k != p) (Or.inl (by simp [c]))] at ih
        iterate 4 refine jw_u rfl ?_
        exact ih
      · rw [nI_eq (by omega) (by omega)] at c
        have ok : (fun k => k != p) i = true := by simp [c]
        cases hb : am (fun k => ap (hd p) (hd k)) (fun k => k != p) i with
        | none =>
          rw [am_yes (f := fun k => ap (hd p) (hd k)) (ok := fun k => k != p) ok (Or.inl hb)] at ih
          iterate 2 refine jw_u rfl ?_
          refine jw_u rfl ⟨fun _ => ?_, fun c2 => absurd rfl c2⟩
          iterate 5 refine jw_u rfl ?_
          exact ih
        | some b =>
          have hbn := am_lt hb
          have q3 := bf b (by omega)
          iterate 2 refine jw_u rfl ?_
          refine jw_u rfl ⟨fun (c2 : nI b = jc (-1)) => absurd c2 (nm1 (by omega)), fun _ => ?_⟩
          iterate 4 refine jw_u rfl ?_
          refine m_between h8 hh bh hp hi ?_
          iterate 4 refine jw_u rfl ?_
          refine m_between (q := b) h8 hh bh hp (by omega) ?_
          refine jw_u rfl ⟨fun (c2 : nI (ap (hd p) (hd b)) ≤ nI (ap (hd p) (hd i))) => ?_, fun (c2 : ¬ nI (ap (hd p) (hd b)) ≤ nI (ap (hd p) (hd i))) => ?_⟩
          · rw [nI_leI (by omega) (by omega)] at c2
            rw [am_no (f := fun k => ap (hd p) (hd k)) (ok := fun k => k != p) (Or.inr ⟨b, hb, c2⟩), hb] at ih
            iterate 4 refine jw_u rfl ?_
            exact ih
          · rw [nI_leI (by omega) (by omega)] at c2
            rw [am_yes (f := fun k => ap (hd p) (hd k)) (ok := fun k => k != p) ok (Or.inr ⟨b, hb, Nat.not_le.mp c2⟩)] at ih
            iterate 5 refine jw_u rfl ?_
            exact ih
  refine jo_i rfl rfl (Nat.le_of_ble_eq_true rfl) ?_
  iterate 4 refine jw_u rfl ?_
  exact loop 0 (Nat.zero_le _)
theorem m_told2 {r p q : Nat} (hr : r ≤ 600) (h8 : n ≤ 8) (hh : ∀ k, k < n → x 122 (r + 2 + k) = nI (hd k)) (hs : ∀ k, k < n → x 124 k = nI (sl k)) (bh : ∀ k, k < n → hd k < 1000) (bs : ∀ k, k < n → sl k ≤ 3) (hp : p < n) (hq : q < n) (h1 : nr (hd p) (hd q) (sl p + sl q) = false → Q (some (.int (nI 1))) x) (h2 : nr (hd p) (hd q) (sl p + sl q) = true → Q (some (.int (nI 0))) x) : jo (d + 3) 133 [.ref 121, .int (nI r), .int (nI p), .int (nI q)] x Q := by
  have b1 := bs p hp
  have b2 := bs q hq
  refine jo_i rfl rfl (Nat.le_of_ble_eq_true rfl) ?_
  iterate 5 refine jw_u rfl ?_
  refine jtop (nI_add r 2) ?_
  iterate 2 refine jw_u rfl ?_
  refine jtop (nI_add (r + 2) p) ?_
  refine jw_u rfl (jaN (o := 122) (show r + 2 + p < 648 by omega) (by decide) (hh p hp) ?_)
  iterate 5 refine jw_u rfl ?_
  refine jtop (nI_add r 2) ?_
  iterate 2 refine jw_u rfl ?_
  refine jtop (nI_add (r + 2) q) ?_
  refine jw_u rfl (jaN (o := 122) (show r + 2 + q < 648 by omega) (by decide) (hh q hq) ?_)
  iterate 3 refine jw_u rfl ?_
  refine jw_u rfl (jaN (o := 124) (show p < 8 by omega) (by decide) (hs p hp) ?_)
  iterate 3 refine jw_u rfl ?_
  refine jw_u rfl (jaN (o := 124) (show q < 8 by omega) (by decide) (hs q hq) ?_)
  refine jw_u rfl ?_
  refine jtop (nI_add _ _) ?_
  refine jw_u rfl ?_
  refine m_isNear (bh p hp) (bh q hq) (by omega) (fun hw => ?_) (fun hw => ?_)
  · refine jw_u rfl ⟨fun _ => ?_, fun c => absurd c n10⟩
    iterate 2 refine jw_u rfl ?_
    exact ⟨fun _ => Or.inl rfl, h2 hw⟩
  · refine jw_u rfl ⟨fun c => absurd n00 c, fun _ => ?_⟩
    iterate 3 refine jw_u rfl ?_
    exact ⟨fun _ => Or.inr rfl, h1 hw⟩
theorem m_voteOf {a c : Nat} (hc : x 121 8 = nI c) (h4 : c ≤ 4) (hq : ∀ k, k < c → x 126 k = nI (sq k)) (bq : ∀ k, k < c → sq k < 1000) (ha : a < 1000) (h : Q (some (.int (oI (am (fun k => ap a (sq k)) (fun _ => true) c)))) x) : jo (d + 3) 141 [.ref 121, .int (nI a)] x Q := by
  have bf : ∀ k, k < c → ap a (sq k) ≤ 27 := fun k hk => ap_lt ha (bq k hk)
  have loop : ∀ i, i ≤ c → jw (d + 2) kX7_voteOf Q 4 [some (.ref 121), some (.int (nI a)), some (.int (oI (am (fun k => ap a (sq k)) (fun _ => true) i))), some (.int (nI i))] [] x := by
    refine dn _ c ?_ (fun i hi ih => ?_)
    · iterate 3 refine jw_u rfl ?_
      refine jw_u rfl ⟨fun _ => ?_, fun (c' : ¬ x 121 8 ≤ nI c) => absurd (by rw [hc]; exact Int32.le_refl _) c'⟩
      iterate 2 refine jw_u rfl ?_
      exact ⟨fun h => (by cases h), h⟩
    · have q2 := bf i hi
      rw [nI_s i] at ih
      iterate 3 refine jw_u rfl ?_
      refine jw_u rfl ⟨fun (c' : x 121 8 ≤ nI i) => absurd c' (by rw [hc]; exact nI_ge hi (by omega)), fun _ => ?_⟩
      cases hb : am (fun k => ap a (sq k)) (fun _ => true) i with
      | none =>
        rw [am_yes (f := fun k => ap a (sq k)) (ok := fun _ => true) rfl (Or.inl hb)] at ih
        iterate 2 refine jw_u rfl ?_
        refine jw_u rfl ⟨fun _ => ?_, fun c2 => absurd rfl c2⟩
        iterate 5 refine jw_u rfl ?_
        exact ih
      | some b =>
        have hbn := am_lt hb
        have q3 := bf b (by omega)
        iterate 2 refine jw_u rfl ?_
        refine jw_u rfl ⟨fun (c2 : nI b = jc (-1)) => absurd c2 (nm1 (by omega)), fun _ => ?_⟩
        iterate 4 refine jw_u rfl ?_
        refine jw_u rfl (jaN (o := 126) (show i < 4 by omega) (by decide) (hq i hi) ?_)
        refine jw_u rfl ?_
        refine m_apart ha (bq i hi) ?_
        iterate 4 refine jw_u rfl ?_
        refine jw_u rfl (jaN (o := 126) (j := b) (show b < 4 by omega) (by decide) (hq b (by omega)) ?_)
        refine jw_u rfl ?_
        refine m_apart ha (bq b (by omega)) ?_
        refine jw_u rfl ⟨fun (c2 : nI (ap a (sq b)) ≤ nI (ap a (sq i))) => ?_, fun (c2 : ¬ nI (ap a (sq b)) ≤ nI (ap a (sq i))) => ?_⟩
        · rw [nI_leI (by omega) (by omega)] at c2
          rw [am_no (f := fun k => ap a (sq k)) (ok := fun _ => true) (Or.inr ⟨b, hb, c2⟩), hb] at ih
          iterate 4 refine jw_u rfl ?_
          exact ih
        · rw [nI_leI (by omega) (by omega)] at c2
          rw [am_yes (f := fun k => ap a (sq k)) (ok := fun _ => true) rfl (Or.inr ⟨b, hb, Nat.not_le.mp c2⟩)] at ih
          iterate 5 refine jw_u rfl ?_
          exact ih
  refine jo_i rfl rfl (Nat.le_of_ble_eq_true rfl) ?_
  iterate 4 refine jw_u rfl ?_
  exact loop 0 (Nat.zero_le _)
end MD
section ME
variable {d : Nat} {x : jM} {Q : Option Value → jM → Prop} {C : aC} {S : aS}
theorem m_whose {m : Int32} (hC : mC x C) (hS : mS x 0 (cN C) S) (wc : wC C) (ws : wS (cN C) S) (h : Q (some (.int (fWhose C S m))) x) : jo (d + 5) 125 [.ref 121, .int m] x Q := by
  obtain ⟨-, -, c3, -, c5, -⟩ := hC
  obtain ⟨s1, -⟩ := hS
  obtain ⟨-, -, b3, -, b5, -⟩ := wc
  obtain ⟨w1, -⟩ := ws
  refine jo_i rfl rfl (Nat.le_of_ble_eq_true rfl) ?_
  iterate 2 refine jw_u rfl ?_
  unfold fWhose at h
  refine m_isMark (fun hp => ?_) (fun hp => ?_)
  · refine jw_u rfl ⟨fun c => absurd c n10, fun _ => ?_⟩
    rw [if_pos hp] at h
    obtain ⟨j, hj, rfl⟩ := ilt (by decide) hp
    rw [nI_clamp (by omega)] at h
    iterate 3 refine jw_u rfl ?_
    refine m_whoseIs c3 b3 s1 c5 w1 b5 hj ?_
    iterate 2 refine jw_u rfl ?_
    exact ⟨fun h => (by cases h), jret (sb_sn _ _ b3) h⟩
  · refine jw_u rfl ⟨fun _ => ?_, fun c => absurd n00 c⟩
    rw [if_neg hp] at h
    iterate 2 refine jw_u rfl ?_
    exact ⟨fun h => (by cases h), h⟩
theorem m_marks {p : Int32} (hC : mC x C) (hS : mS x 0 (cN C) S) (wc : wC C) (ws : wS (cN C) S) (h : Q (some (.int (fMarks C S p))) x) : jo (d + 3) 128 [.ref 121, .int p] x Q := by
  obtain ⟨-, -, c3, -, c5, -⟩ := hC
  obtain ⟨s1, -⟩ := hS
  obtain ⟨-, -, b3, -, b5, -⟩ := wc
  obtain ⟨w1, -⟩ := ws
  refine jo_i rfl rfl (Nat.le_of_ble_eq_true rfl) ?_
  iterate 3 refine jw_u rfl ?_
  unfold fMarks at h
  refine m_isPerson c3 b3 (fun hp => ?_) (fun hp => ?_)
  · refine jw_u rfl ⟨fun c => absurd c n10, fun _ => ?_⟩
    rw [if_pos hp] at h
    obtain ⟨j, hj, rfl⟩ := ilt (by omega) hp
    rw [nI_clamp (by omega)] at h
    iterate 3 refine jw_u rfl ?_
    refine m_marksOf b3 s1 c5 w1 b5 hj ?_
    iterate 2 refine jw_u rfl ?_
    exact ⟨fun h => (by cases h), h⟩
  · refine jw_u rfl ⟨fun _ => ?_, fun c => absurd n00 c⟩
    rw [if_neg hp] at h
    iterate 2 refine jw_u rfl ?_
    exact ⟨fun h => (by cases h), h⟩
theorem m_kin {p : Int32} (hC : mC x C) (hS : mS x 0 (cN C) S) (wc : wC C) (ws : wS (cN C) S) (h : Q (some (.int (fKin C S p))) x) : jo (d + 5) 132 [.ref 121, .int p] x Q := by
  obtain ⟨-, -, c3, -⟩ := hC
  obtain ⟨s1, -⟩ := hS
  obtain ⟨-, -, b3, -⟩ := wc
  obtain ⟨w1, -⟩ := ws
  refine jo_i rfl rfl (Nat.le_of_ble_eq_true rfl) ?_
  iterate 3 refine jw_u rfl ?_
  unfold fKin at h
  refine m_isPerson c3 b3 (fun hp => ?_) (fun hp => ?_)
  · refine jw_u rfl ⟨fun c => absurd c n10, fun _ => ?_⟩
    rw [if_pos hp] at h
    obtain ⟨j, hj, rfl⟩ := ilt (by omega) hp
    rw [nI_clamp (by omega)] at h
    iterate 3 refine jw_u rfl ?_
    refine m_kinOf c3 b3 s1 w1 hj ?_
    iterate 2 refine jw_u rfl ?_
    exact ⟨fun h => (by cases h), h⟩
  · refine jw_u rfl ⟨fun _ => ?_, fun c => absurd n00 c⟩
    rw [if_neg hp] at h
    iterate 2 refine jw_u rfl ?_
    exact ⟨fun h => (by cases h), h⟩
theorem m_vote {m : Int32} (hC : mC x C) (wc : wC C) (h : Q (some (.int (fVote C m))) x) : jo (d + 4) 142 [.ref 121, .int m] x Q := by
  obtain ⟨-, -, -, c4, -, -, c7⟩ := hC
  obtain ⟨-, -, -, b4, -, -, b7⟩ := wc
  refine jo_i rfl rfl (Nat.le_of_ble_eq_true rfl) ?_
  iterate 2 refine jw_u rfl ?_
  unfold fVote at h
  refine m_isMark (fun hp => ?_) (fun hp => ?_)
  · refine jw_u rfl ⟨fun c => absurd c n10, fun _ => ?_⟩
    rw [if_pos hp] at h
    obtain ⟨j, hj, rfl⟩ := ilt (by decide) hp
    rw [nI_clamp (by omega)] at h
    iterate 3 refine jw_u rfl ?_
    refine m_voteOf c4 b4 c7 b7 hj ?_
    iterate 2 refine jw_u rfl ?_
    exact ⟨fun h => (by cases h), h⟩
  · refine jw_u rfl ⟨fun _ => ?_, fun c => absurd n00 c⟩
    rw [if_neg hp] at h
    iterate 2 refine jw_u rfl ?_
    exact ⟨fun h => (by cases h), h⟩
theorem m_clash (hC : mC x C) (hS : mS x 0 (cN C) S) (wc : wC C) (ws : wS (cN C) S) (h : Q (some (.int (fClash C S))) x) : jo (d + 4) 135 [.ref 121] x Q := by
  obtain ⟨-, -, c3, -, c5, -⟩ := hC
  obtain ⟨s1, -⟩ := hS
  obtain ⟨-, -, b3, -, b5, -⟩ := wc
  obtain ⟨w1, -⟩ := ws
  have loop : ∀ p, p ≤ cN C → ∀ g, Q (some (.int (cI ((rsp (cN C) p).find? (fun q => nr (sH S q.1) (sH S q.2) (cSl C q.1 + cSl C q.2)))))) x → jw (d + 3) kX7_clash Q 2 [some (.ref 121), some (.int (nI p)), g] [] x := by
    refine dn _ (cN C) (fun g hq => ?_) (fun p hp ih g hq => ?_)
    · rw [rsp_n (Nat.le_refl _)] at hq
      iterate 3 refine jw_u rfl ?_
      refine jw_u rfl ⟨fun _ => ?_, fun (c' : ¬ x 121 5 ≤ nI (cN C)) => absurd (by rw [c3]; exact Int32.le_refl _) c'⟩
      iterate 2 refine jw_u rfl ?_
      exact ⟨fun h => (by cases h), jret jm1 hq⟩
    · have inner : ∀ q, q ≤ cN C → p < q → Q (some (.int (cI ((rwp (cN C) p q ++ rsp (cN C) (p + 1)).find? (fun q => nr (sH S q.1) (sH S q.2) (cSl C q.1 + cSl C q.2)))))) x → jw (d + 3) kX7_clash Q 10 [some (.ref 121), some (.int (nI p)), some (.int (nI q))] [] x := by
        refine dn _ (cN C) (fun _ hq => ?_) (fun q hq' ihq hpq hq => ?_)
        · rw [rwp_n (Nat.le_refl _), List.nil_append] at hq
          iterate 3 refine jw_u rfl ?_
          refine jw_u rfl ⟨fun _ => ?_, fun (c' : ¬ x 121 5 ≤ nI (cN C)) => absurd (by rw [c3]; exact Int32.le_refl _) c'⟩
          iterate 2 refine jw_u rfl ?_
          have := ih (some (.int (nI (cN C)))) hq
          rw [nI_s p] at this
          exact this
        · rw [rwp_c hq', List.cons_append, List.find?_cons] at hq
          iterate 3 refine jw_u rfl ?_
          refine jw_u rfl ⟨fun (c' : x 121 5 ≤ nI q) => absurd c' (by rw [c3]; exact nI_ge hq' (by omega)), fun _ => ?_⟩
          iterate 5 refine jw_u rfl ?_
          refine m_told2 (r := 0) (by decide) b3 s1 c5 w1 b5 hp hq' (fun hw => ?_) (fun hw => ?_)
          · refine jw_u rfl ⟨fun _ => ?_, fun c => absurd c n10⟩
            iterate 2 refine jw_u rfl ?_
            simp only [hw] at hq
            have := ihq (by omega) hq
            rw [nI_s q] at this
            exact this
          · refine jw_u rfl ⟨fun c => absurd n00 c, fun _ => ?_⟩
            simp only [hw] at hq
            iterate 3 refine jw_u rfl ?_
            refine jtop (pk_mul 10 p) ?_
            iterate 2 refine jw_u rfl ?_
            refine jtop (nI_add _ _) ?_
            refine jw_u rfl ?_
            exact ⟨fun h => (by cases h), hq⟩
      rw [rsp_c hp] at hq
      iterate 3 refine jw_u rfl ?_
      refine jw_u rfl ⟨fun (c' : x 121 5 ≤ nI p) => absurd c' (by rw [c3]; exact nI_ge hp (by omega)), fun _ => ?_⟩
      iterate 3 refine jw_u rfl ?_
      refine jtop (nI_add _ _) ?_
      refine jw_u rfl ?_
      exact inner (p + 1) hp (Nat.lt_succ_self _) hq
  refine jo_i rfl rfl (Nat.le_of_ble_eq_true rfl) ?_
  iterate 2 refine jw_u rfl ?_
  exact loop 0 (Nat.zero_le _) none h
theorem m_forged (hC : mC x C) (hS : mS x 0 (cN C) S) (wc : wC C) (ws : wS (cN C) S) (h : Q (some (.int (fForged C S))) x) : jo (d + 4) 136 [.ref 121] x Q := by
  obtain ⟨-, -, c3, -, c5, -⟩ := hC
  obtain ⟨s1, s2, s3, s4, -⟩ := hS
  obtain ⟨-, -, b3, -, b5, -⟩ := wc
  obtain ⟨w1, w2, w3, w4, -⟩ := ws
  have loop : ∀ i, i ≤ sP S → jw (d + 3) kX7_forged Q 4 [some (.ref 121), some (.int (sb (fun s => !nr (sM S s) (sH S (sN S s)) (cSl C (sN S s))) i)), some (.int (nI i))] [] x := by
    refine dn _ (sP S) ?_ (fun i hi ih => ?_)
    · iterate 4 refine jw_u rfl ?_
      refine jw_u rfl (jaN (o := 122) (show 1 < 648 by decide) (by decide) s2 ?_)
      refine jw_u rfl ⟨fun _ => ?_, fun (c' : ¬ nI (sP S) ≤ nI (sP S)) => absurd (Int32.le_refl _) c'⟩
      iterate 2 refine jw_u rfl ?_
      exact ⟨fun h => (by cases h), h⟩
    · rw [nI_s i] at ih
      iterate 4 refine jw_u rfl ?_
      refine jw_u rfl (jaN (o := 122) (show 1 < 648 by decide) (by decide) s2 ?_)
      refine jw_u rfl ⟨fun (c' : nI (sP S) ≤ nI i) => absurd c' (nI_ge hi (by omega)), fun _ => ?_⟩
      iterate 7 refine jw_u rfl ?_
      refine jtop (nI_add 10 i) ?_
      refine jw_u rfl (jaN (o := 122) (show 10 + i < 648 by omega) (by decide) (s3 i hi) ?_)
      iterate 5 refine jw_u rfl ?_
      refine jtop (nI_add 18 i) ?_
      refine jw_u rfl (jaN (o := 122) (show 18 + i < 648 by omega) (by decide) (s4 i hi) ?_)
      refine jw_u rfl ?_
      refine m_passesFor b3 s1 c5 w1 b5 (w3 i hi) (w4 i hi) (fun hw => ?_) (fun hw => ?_)
      · refine jw_u rfl ⟨fun c => absurd c n10, fun _ => ?_⟩
        iterate 3 refine jw_u rfl ?_
        refine jtop (or0 _) ?_
        iterate 3 refine jw_u rfl ?_
        rw [sb, if_neg (by simp [hw])] at ih
        exact ih
      · refine jw_u rfl ⟨fun _ => ?_, fun c => absurd n00 c⟩
        iterate 7 refine jw_u rfl ?_
        rw [sb, if_pos (by simp [hw])] at ih
        exact ih
  refine jo_i rfl rfl (Nat.le_of_ble_eq_true rfl) ?_
  iterate 4 refine jw_u rfl ?_
  exact loop 0 (Nat.zero_le _)
theorem m_makers {p : Int32} (hC : mC x C) (hS : mS x 0 (cN C) S) (wc : wC C) (ws : wS (cN C) S) (h : Q (some (.int (fMakers C S p))) x) : jo (d + 5) 137 [.ref 121, .int p] x Q := by
  obtain ⟨-, -, c3, -, c5, -⟩ := hC
  obtain ⟨s1, s2, s3, s4, -⟩ := hS
  obtain ⟨-, -, b3, -, b5, -⟩ := wc
  obtain ⟨w1, w2, w3, w4, -⟩ := ws
  refine jo_i rfl rfl (Nat.le_of_ble_eq_true rfl) ?_
  iterate 3 refine jw_u rfl ?_
  unfold fMakers at h
  refine m_isPaper s2 w2 (fun hp => ?_) (fun hp => ?_)
  · refine jw_u rfl ⟨fun c => absurd c n10, fun _ => ?_⟩
    rw [if_pos hp] at h
    obtain ⟨j, hj, rfl⟩ := ilt (by omega) hp
    rw [nI_clamp (by omega)] at h
    iterate 6 refine jw_u rfl ?_
    refine jtop (nI_add 10 j) ?_
    refine jw_u rfl (jaN (o := 122) (show 10 + j < 648 by omega) (by decide) (s3 j hj) ?_)
    refine jw_u rfl ?_
    refine m_whoseIs c3 b3 s1 c5 w1 b5 (w3 j hj) ?_
    iterate 6 refine jw_u rfl ?_
    refine jtop (nI_add 18 j) ?_
    refine jw_u rfl (jaN (o := 122) (show 18 + j < 648 by omega) (by decide) (s4 j hj) ?_)
    iterate 6 refine jw_u rfl ?_
    exact ⟨fun h => (by cases h), h⟩
  · refine jw_u rfl ⟨fun _ => ?_, fun c => absurd n00 c⟩
    rw [if_neg hp] at h
    iterate 2 refine jw_u rfl ?_
    exact ⟨fun h => (by cases h), h⟩
theorem m_turned {m c : Int32} (hC : mC x C) (wc : wC C) (h : Q (some (.int (fTurned C m c))) x) : jo (d + 4) 143 [.ref 121, .int m, .int c] x Q := by
  obtain ⟨-, -, -, c4, -, -, c7⟩ := hC
  obtain ⟨-, -, -, b4, -, -, b7⟩ := wc
  refine jo_i rfl rfl (Nat.le_of_ble_eq_true rfl) ?_
  iterate 3 refine jw_u rfl ?_
  unfold fTurned at h
  refine m_isCandidate c4 b4 (fun hp => ?_) (fun hp => ?_)
  rotate_left
  · refine jw_u rfl ⟨fun c => absurd n00 c, fun _ => ?_⟩
    rw [if_neg hp] at h
    iterate 2 refine jw_u rfl ?_
    exact ⟨fun h => (by cases h), h⟩
  refine jw_u rfl ⟨fun _ => ?_, fun c => absurd c n10⟩
  rw [if_pos hp] at h
  iterate 2 refine jw_u rfl ?_
  refine m_isMark (fun hm => ?_) (fun hm => ?_)
  rotate_left
  · refine jw_u rfl ⟨fun c => absurd n00 c, fun _ => ?_⟩
    rw [if_neg hm] at h
    iterate 2 refine jw_u rfl ?_
    exact ⟨fun h => (by cases h), h⟩
  refine jw_u rfl ⟨fun _ => ?_, fun c => absurd c n10⟩
  rw [if_pos hm] at h
  obtain ⟨j, hj, rfl⟩ := ilt (by omega) hp
  obtain ⟨a, ha, rfl⟩ := ilt (by decide) hm
  rw [nI_clamp (by omega), nI_clamp (by omega)] at h
  have loop : ∀ i, i ≤ 1000 → ∀ g, jw (d + 3) kX7_turned Q 15 [some (.ref 121), some (.int (nI a)), some (.int (nI j)), some (.int (nI (tn C a j 1000000 i))), some (.int (nI i)), g] [] x := by
    refine dn _ 1000 (fun g => ?_) (fun i hi ih g => ?_)
    · have q1 := tn_le (C := C) (a := a) (c := j) (z := 1000000) 1000
      have q2 := tn_z (C := C) (a := a) (c := j) (z := 100) (w := 1000000) ha (by decide) (by decide) 1000 (Nat.le_refl _)
      generalize tn C a j 1000000 1000 = v at q1 q2 ⊢
      generalize tn C a j 100 1000 = v0 at q2 h
      iterate 2 refine jw_u rfl ?_
      refine jw_u rfl ⟨fun _ => ?_, fun (c' : ¬ nI 1000 ≤ nI 1000) => absurd (Int32.le_refl _) c'⟩
      iterate 2 refine jw_u rfl ?_
      refine jw_u rfl ⟨fun (c' : ¬ nI v = nI 1000000) => ?_, fun (c' : nI v = nI 1000000) => ?_⟩
      · rw [nI_eq (by omega) (by decide)] at c'
        rw [if_neg (by omega)] at h
        iterate 2 refine jw_u rfl ?_
        exact ⟨fun h => (by cases h), jret (by rw [show v = v0 by omega]) h⟩
      · rw [nI_eq (by omega) (by decide)] at c'
        rw [if_pos (by omega)] at h
        iterate 3 refine jw_u rfl ?_
        exact ⟨fun h => (by cases h), jret jm1 h⟩
    · have q1 := tn_le (C := C) (a := a) (c := j) (z := 1000000) i
      have q2 := ap_lt ha hi
      have ih := ih (some (.int (nI (ap a i))))
      rw [nI_s i] at ih
      iterate 2 refine jw_u rfl ?_
      refine jw_u rfl ⟨fun (c' : nI 1000 ≤ nI i) => absurd c' (nI_ge hi (by decide)), fun _ => ?_⟩
      iterate 3 refine jw_u rfl ?_
      refine m_apart ha hi ?_
      iterate 3 refine jw_u rfl ?_
      refine jw_u rfl ⟨fun (c' : nI (tn C a j 1000000 i) ≤ nI (ap a i)) => ?_, fun (c' : ¬ nI (tn C a j 1000000 i) ≤ nI (ap a i)) => ?_⟩
      · rw [nI_leI (by omega) (by omega)] at c'
        rw [tn, if_neg (fun hc => absurd hc.1 (by omega))] at ih
        iterate 4 refine jw_u rfl ?_
        exact ih
      · rw [nI_leI (by omega) (by omega)] at c'
        iterate 3 refine jw_u rfl ?_
        refine m_voteOf c4 b4 c7 b7 hi ?_
        refine jw_u rfl ?_
        have eo : oI (ch C i) = nI j ↔ ch C i = some j := oI_eq (by omega) (fun b hb => by have := am_lt hb; omega)
        refine jw_u rfl ⟨fun (c2 : ¬ oI (ch C i) = nI j) => ?_, fun (c2 : oI (ch C i) = nI j) => ?_⟩
        · rw [eo] at c2
          rw [tn, if_neg (fun hc => c2 hc.2)] at ih
          iterate 4 refine jw_u rfl ?_
          exact ih
        · rw [eo] at c2
          rw [tn, if_pos ⟨by omega, c2⟩] at ih
          iterate 5 refine jw_u rfl ?_
          exact ih
  iterate 4 refine jw_u rfl ?_
  exact loop 0 (Nat.zero_le _) none
end ME
end
section
/-! THE REFERENCE: sham, love, odds, what is seen, the book -/
theorem bts1 : ∀ i, i < 8 → ∀ s, s < 2 ^ i → ∀ q, q < i → bt (s + 2 ^ i) q = bt s q := by decide +kernel
theorem bts2 : ∀ i, i < 8 → ∀ s, s < 2 ^ i → bt (s + 2 ^ i) i = 1 ∧ bt s i = 0 := by decide +kernel
theorem sn_bt (P : Nat → Bool) : ∀ i, i ≤ 8 → ∀ q, q < i → bt (sn P i) q = if P q = true then 1 else 0
  | 0, _, q, h => absurd h (Nat.not_lt_zero _)
  | i + 1, hi, q, h => by
    have b := sn_lt P i
    rw [sn]
    by_cases e : q = i
    · subst e
      have := bts2 q (by omega) (sn P q) b
      split
      · exact this.1
      · exact this.2
    · have ih := sn_bt P i (by omega) q (by omega)
      split
      · rw [bts1 i (by omega) (sn P i) b q (by omega)]
        exact ih
      · exact ih
theorem s1_le {a b : Nat} (ha : a < 2 ^ 30) (hb : b < 2 ^ 30) : nI a - nI 1 ≤ nI b - nI 1 ↔ a ≤ b := by
  rw [Int32.le_iff_toInt_le, pk_sub_toInt (by omega) (by decide), pk_sub_toInt (by omega) (by decide)]
  omega
section MF
variable {d : Nat} {x : jM} {Q : Option Value → jM → Prop} {C : aC} {S : aS}
theorem m_sham {p : Int32} (hC : mC x C) (hS : mS x 0 (cN C) S) (wc : wC C) (ws : wS (cN C) S) (h : Q (some (.int (fSham C S p))) x) : jo (d + 3) 139 [.ref 121, .int p] x Q := by
  have b3 := wc.2.2.1
  have b2 := wc.2.1
  have c3 := hC.2.2.1
  have c2 := hC.2.1
  have s1 := hS.1
  have w1 := ws.1
  refine jo_i rfl rfl (Nat.le_of_ble_eq_true rfl) ?_
  iterate 3 refine jw_u rfl ?_
  unfold fSham at h
  refine m_isPerson c3 b3 (fun hp => ?_) (fun hp => ?_)
  rotate_left
  · refine jw_u rfl ⟨fun c => absurd n00 c, fun _ => ?_⟩
    rw [if_neg hp] at h
    iterate 2 refine jw_u rfl ?_
    exact ⟨fun h => (by cases h), h⟩
  refine jw_u rfl ⟨fun _ => ?_, fun c => absurd c n10⟩
  rw [if_pos hp] at h
  obtain ⟨j, hj, rfl⟩ := ilt (by omega) hp
  rw [nI_clamp (by omega)] at h
  have bf : ∀ k, k < cN C → ap (sH S k) (cG C) ≤ 27 := fun k hk => ap_lt (w1 k hk) b2
  have bo := bf j hj
  have loop : ∀ i, i ≤ cN C → ∀ g, jw (d + 2) kX7_sham Q 10 [some (.ref 121), some (.int (nI j)), some (.int (nI (al (fun k => ap (sH S k) (cG C)) j 1000001 i) - nI 1)), some (.int (nI i)), g] [] x := by
    refine dn _ (cN C) (fun g => ?_) (fun i hi ih g => ?_)
    · have q1 := al_le (f := fun k => ap (sH S k) (cG C)) (j := j) (z := 1000001) (cN C)
      generalize al (fun k => ap (sH S k) (cG C)) j 1000001 (cN C) = v at q1 h ⊢
      iterate 3 refine jw_u rfl ?_
      refine jw_u rfl ⟨fun _ => ?_, fun (c' : ¬ x 121 5 ≤ nI (cN C)) => absurd (by rw [c3]; exact Int32.le_refl _) c'⟩
      iterate 5 refine jw_u rfl ?_
      refine jtop (nI_add 2 j) ?_
      refine jw_u rfl (jaN (o := 122) (show 2 + j < 648 by omega) (by decide) (s1 j hj) ?_)
      iterate 2 refine jw_u rfl ?_
      refine jtop c2 ?_
      refine jw_u rfl ?_
      refine m_apart (w1 j hj) b2 ?_
      iterate 2 refine jw_u rfl ?_
      have e2 : (nI v - nI 1).toInt = (v : Int) - 1 := pk_sub_toInt (by omega) (by decide)
      unfold shR at h
      refine jw_u rfl ⟨fun (c' : 0 ≤ nI v - nI 1) => ?_, fun (c' : ¬ 0 ≤ nI v - nI 1) => ?_⟩
      · have hv : 1 ≤ v := by
          rw [Int32.le_iff_toInt_le, e2] at c'
          have : (0 : Int32).toInt = 0 := by decide
          omega
        rw [if_neg (by omega)] at h
        obtain ⟨u, rfl⟩ : ∃ u, v = u + 1 := ⟨v - 1, by omega⟩
        rw [s1a]
        iterate 2 refine jw_u rfl ?_
        refine jw_u rfl ⟨fun (c4 : nI (ap (sH S j) (cG C)) ≤ nI u) => ?_, fun (c4 : ¬ nI (ap (sH S j) (cG C)) ≤ nI u) => ?_⟩
        · rw [nI_leI (by omega) (by omega)] at c4
          rw [show ap (sH S j) (cG C) - (u + 1 - 1) = 0 by omega] at h
          iterate 2 refine jw_u rfl ?_
          exact ⟨fun h => (by cases h), h⟩
        · rw [nI_leI (by omega) (by omega)] at c4
          rw [show ap (sH S j) (cG C) - (u + 1 - 1) = ap (sH S j) (cG C) - u by omega] at h
          iterate 3 refine jw_u rfl ?_
          refine jtop (pk_sub (by omega)) ?_
          iterate 2 refine jw_u rfl ?_
          exact ⟨fun h => (by cases h), h⟩
      · have hv : v = 0 := by
          rw [Int32.le_iff_toInt_le, e2] at c'
          have : (0 : Int32).toInt = 0 := by decide
          omega
        rw [if_pos (by omega)] at h
        iterate 3 refine jw_u rfl ?_
        exact ⟨fun h => (by cases h), jret jm1 h⟩
    · have q1 := al_le (f := fun k => ap (sH S k) (cG C)) (j := j) (z := 1000001) i
      have q3 := bf i hi
      have its : ∀ w, w = (if i < j then ap (sH S i) (cG C) else ap (sH S i) (cG C) + 1) → jw (d + 2) kX7_sham Q 30 [some (.ref 121), some (.int (nI j)), some (.int (nI (al (fun k => ap (sH S k) (cG C)) j 1000001 i) - nI 1)), some (.int (nI i)), g] [.int (nI w - nI 1)] x := by
        intro w hw
        have ih := ih (some (.int (nI w - nI 1)))
        rw [nI_s i, al, ← hw] at ih
        have hw28 : w ≤ 28 := by rw [hw]; split <;> omega
        generalize al (fun k => ap (sH S k) (cG C)) j 1000001 i = A at q1 ih ⊢
        iterate 3 refine jw_u rfl ?_
        refine jw_u rfl ⟨fun (c' : nI i = nI j) => ?_, fun (c' : ¬ nI i = nI j) => ?_⟩
        · rw [nI_eq (by omega) (by omega)] at c'
          rw [if_pos c'] at ih
          iterate 4 refine jw_u rfl ?_
          exact ih
        · rw [nI_eq (by omega) (by omega)] at c'
          rw [if_neg c'] at ih
          iterate 2 refine jw_u rfl ?_
          refine jw_u rfl ⟨fun (c4 : nI A - nI 1 ≤ nI w - nI 1) => ?_, fun (c4 : ¬ nI A - nI 1 ≤ nI w - nI 1) => ?_⟩
          · rw [s1_le (by omega) (by omega)] at c4
            rw [Nat.min_eq_left c4] at ih
            iterate 4 refine jw_u rfl ?_
            exact ih
          · rw [s1_le (by omega) (by omega)] at c4
            rw [Nat.min_eq_right (by omega)] at ih
            iterate 5 refine jw_u rfl ?_
            exact ih
      iterate 3 refine jw_u rfl ?_
      refine jw_u rfl ⟨fun (c' : x 121 5 ≤ nI i) => absurd c' (by rw [c3]; exact nI_ge hi (by omega)), fun _ => ?_⟩
      iterate 5 refine jw_u rfl ?_
      refine jtop (nI_add 2 i) ?_
      refine jw_u rfl (jaN (o := 122) (show 2 + i < 648 by omega) (by decide) (s1 i hi) ?_)
      iterate 2 refine jw_u rfl ?_
      refine jtop c2 ?_
      refine jw_u rfl ?_
      refine m_apart (w1 i hi) b2 ?_
      iterate 2 refine jw_u rfl ?_
      refine jw_u rfl ⟨fun (c4 : nI j ≤ nI i) => ?_, fun (c4 : ¬ nI j ≤ nI i) => ?_⟩
      · rw [nI_leI (by omega) (by omega)] at c4
        iterate 2 refine jw_u rfl ?_
        refine jtop (v' := nI (ap (sH S i) (cG C) + 1) - nI 1) (by rw [s1a]; exact pk_sub (b := 0) (Nat.zero_le _)) ?_
        exact its _ (by rw [if_neg (by omega)])
      · rw [nI_leI (by omega) (by omega)] at c4
        iterate 3 refine jw_u rfl ?_
        exact its _ (by rw [if_pos (by omega)])
  iterate 4 refine jw_u rfl ?_
  have := loop 0 (Nat.zero_le _) none
  rw [show nI (al (fun k => ap (sH S k) (cG C)) j 1000001 0) - nI 1 = nI 1000000 from (by decide : nI 1000001 - nI 1 = nI 1000000)] at this
  exact this
theorem m_love {i : Int32} (hC : mC x C) (hS : mS x 0 (cN C) S) (wc : wC C) (ws : wS (cN C) S) (h : Q (some (.int (fLove C S i))) x) : jo (d + 5) 140 [.ref 121, .int i] x Q := by
  have b3 := wc.2.2.1
  have c3 := hC.2.2.1
  have loop : ∀ p, p ≤ cN C → ∀ c g, c ≤ p → Q (some (.int (rsI i c (lvl (cN C) (sH S) p)))) x → jw (d + 4) kX7_love Q 4 [some (.ref 121), some (.int i), some (.int (nI c)), some (.int (nI p)), g] [] x := by
    refine dn _ (cN C) (fun c g hc hq => ?_) (fun p hp ih c g hc hq => ?_)
    · rw [lvl_n (Nat.le_refl _), rsI] at hq
      iterate 3 refine jw_u rfl ?_
      refine jw_u rfl ⟨fun _ => ?_, fun (c' : ¬ x 121 5 ≤ nI (cN C)) => absurd (by rw [c3]; exact Int32.le_refl _) c'⟩
      iterate 2 refine jw_u rfl ?_
      refine jw_u rfl ⟨fun (c' : ¬ i = jc (-1)) => ?_, fun (c' : i = jc (-1)) => ?_⟩
      · rw [jm1] at c'
        rw [if_neg c'] at hq
        iterate 2 refine jw_u rfl ?_
        exact ⟨fun h => (by cases h), jret jm1 hq⟩
      · rw [jm1] at c'
        rw [if_pos c'] at hq
        iterate 3 refine jw_u rfl ?_
        exact ⟨fun h => (by cases h), hq⟩
    · iterate 3 refine jw_u rfl ?_
      refine jw_u rfl ⟨fun (c' : x 121 5 ≤ nI p) => absurd c' (by rw [c3]; exact nI_ge hp (by omega)), fun _ => ?_⟩
      iterate 3 refine jw_u rfl ?_
      refine m_kinOf c3 b3 hS.1 ws.1 hp ?_
      rw [lvl_c hp] at hq
      have skip : lv (cN C) (sH S) p = none → ∀ g, jw (d + 4) kX7_love Q 30 [some (.ref 121), some (.int i), some (.int (nI c)), some (.int (nI p)), g] [] x := by
        intro e g
        rw [e] at hq
        have := ih c g (by omega) hq
        rw [nI_s p] at this
        iterate 2 refine jw_u rfl ?_
        exact this
      cases hk : kn (cN C) (sH S) p with
      | none =>
        refine jtop (v' := -1) (by show oI (kn (cN C) (sH S) p) = _; rw [hk]; rfl) ?_
        iterate 3 refine jw_u rfl ?_
        refine jw_u rfl ⟨fun _ => ?_, fun (c' : ¬ (-1 : Int32) ≤ nI p) => ?_⟩
        · exact skip (by rw [lv, hk]) _
        · exact absurd (Int32.le_trans (by decide : (-1 : Int32) ≤ 0) (nI_pos' (by omega))) c'
      | some q =>
        have hq2 := am_lt hk
        refine jtop (v' := nI q) (by show oI (kn (cN C) (sH S) p) = _; rw [hk]; rfl) ?_
        iterate 3 refine jw_u rfl ?_
        refine jw_u rfl ⟨fun (c' : nI q ≤ nI p) => ?_, fun (c' : ¬ nI q ≤ nI p) => ?_⟩
        · rw [nI_leI (by omega) (by omega)] at c'
          exact skip (by rw [lv, hk]; dsimp only; rw [if_neg (by omega)]) _
        · rw [nI_leI (by omega) (by omega)] at c'
          iterate 3 refine jw_u rfl ?_
          refine m_kinOf c3 b3 hS.1 ws.1 hq2 ?_
          refine jw_u rfl ?_
          have eqo : oI (kn (cN C) (sH S) q) = nI p ↔ kn (cN C) (sH S) q = some p := oI_eq (by omega) (fun b hb => by have := am_lt hb; omega)
          refine jw_u rfl ⟨fun (c2 : ¬ oI (kn (cN C) (sH S) q) = nI p) => ?_, fun (c2 : oI (kn (cN C) (sH S) q) = nI p) => ?_⟩
          · rw [eqo] at c2
            exact skip (by rw [lv, hk]; dsimp only; rw [if_neg (fun hc => c2 hc.2)]) _
          · rw [eqo] at c2
            have e : lv (cN C) (sH S) p = some (p, q) := by rw [lv, hk]; dsimp only; rw [if_pos ⟨by omega, c2⟩]
            rw [e] at hq
            dsimp only at hq
            rw [rsI] at hq
            iterate 2 refine jw_u rfl ?_
            refine jw_u rfl ⟨fun (c4 : ¬ nI c = i) => ?_, fun (c4 : nI c = i) => ?_⟩
            · rw [if_neg c4] at hq
              have := ih (c + 1) (some (.int (nI q))) (by omega) hq
              rw [nI_s p, nI_s c] at this
              iterate 3 refine jw_u rfl ?_
              exact this
            · rw [if_pos c4] at hq
              iterate 3 refine jw_u rfl ?_
              refine jtop (pk_mul 10 p) ?_
              iterate 2 refine jw_u rfl ?_
              refine jtop (nI_add _ _) ?_
              refine jw_u rfl ?_
              exact ⟨fun h => (by cases h), hq⟩
  refine jo_i rfl rfl (Nat.le_of_ble_eq_true rfl) ?_
  iterate 4 refine jw_u rfl ?_
  exact loop 0 (Nat.zero_le _) 0 none (Nat.le_refl _) h
theorem m_odds {p m : Int32} (hC : mC x C) (hS : mS x 0 (cN C) S) (wc : wC C) (ws : wS (cN C) S) (h : Q (some (.int (fOdds C S p m))) x) : jo (d + 5) 127 [.ref 121, .int p, .int m] x Q := by
  obtain ⟨-, -, c3, -, c5, -⟩ := hC
  obtain ⟨s1, s2, s3, s4, -⟩ := hS
  obtain ⟨-, -, b3, -, b5, -⟩ := wc
  obtain ⟨w1, w2, w3, w4, -⟩ := ws
  refine jo_i rfl rfl (Nat.le_of_ble_eq_true rfl) ?_
  iterate 3 refine jw_u rfl ?_
  unfold fOdds at h
  refine m_isPerson c3 b3 (fun hp => ?_) (fun hp => ?_)
  rotate_left
  · refine jw_u rfl ⟨fun c => absurd n00 c, fun _ => ?_⟩
    rw [if_neg hp] at h
    iterate 2 refine jw_u rfl ?_
    exact ⟨fun h => (by cases h), h⟩
  refine jw_u rfl ⟨fun _ => ?_, fun c => absurd c n10⟩
  rw [if_pos hp] at h
  iterate 2 refine jw_u rfl ?_
  refine m_isMark (fun hm => ?_) (fun hm => ?_)
  rotate_left
  · refine jw_u rfl ⟨fun c => absurd n00 c, fun _ => ?_⟩
    rw [if_neg hm] at h
    iterate 2 refine jw_u rfl ?_
    exact ⟨fun h => (by cases h), h⟩
  refine jw_u rfl ⟨fun _ => ?_, fun c => absurd c n10⟩
  rw [if_pos hm] at h
  obtain ⟨j, hj, rfl⟩ := ilt (by omega) hp
  obtain ⟨a, ha, rfl⟩ := ilt (by decide) hm
  rw [nI_clamp (by omega), nI_clamp (by omega)] at h
  iterate 3 refine jw_u rfl ?_
  refine m_whoseIs c3 b3 s1 c5 w1 b5 ha ?_
  have esb : sb (fun j => nr a (sH S j) (cSl C j)) (cN C) = nI (sn (pS C S a) (cN C)) := sb_sn _ _ b3
  refine jtop esb ?_
  have bsn := sn_lt (pS C S a) (cN C)
  have bp2 := p2 b3
  have ebt := sn_bt (pS C S a) (cN C) b3
  generalize sn (pS C S a) (cN C) = s at bsn ebt ⊢
  have g2 := wt_ge C S j
  have g3 := wt_le C S j
  have g4 := oA_le (P := pS C S a) (wt_le C S) (cN C)
  have dv : ∀ k, (¬ lN (pcn (sH S k) (cSl C k) 3) = 0) ∧ lN 1000000 / lN (pcn (sH S k) (cSl C k) 3) = lN (wt C S k) := by
    intro k
    have h1 := pcn_1 (sH S k) (cSl C k) 3
    have h2 := pcn_3 (a := sH S k) (s := cSl C k) (Nat.le_refl 3)
    refine ⟨fun e => ?_, pk_lDiv (by decide) (by omega) (by omega)⟩
    have := (pk_lEQ (a := pcn (sH S k) (cSl C k) 3) (b := 0) (by omega) (by decide)).mp e
    omega
  have np : ∀ k, (nI (pcn (sH S k) (cSl C k) 3)).toInt64 = lN (pcn (sH S k) (cSl C k) 3) := by
    intro k
    have h2 := pcn_3 (a := sH S k) (s := cSl C k) (Nat.le_refl 3)
    exact nI_l (by omega)
  have loop : ∀ i, i ≤ cN C → jw (d + 4) kX7_odds Q 19 [some (.ref 121), some (.int (nI j)), some (.int (nI a)), some (.int (nI s)), some (.long (lN (oA (pS C S a) (wt C S) i))), none, some (.int (nI i))] [] x := by
    refine dn _ (cN C) ?_ (fun i hi ih => ?_)
    · iterate 3 refine jw_u rfl ?_
      refine jw_u rfl ⟨fun _ => ?_, fun (c' : ¬ x 121 5 ≤ nI (cN C)) => absurd (by rw [c3]; exact Int32.le_refl _) c'⟩
      iterate 3 refine jw_u rfl ?_
      refine m_has (by omega) (by omega) (fun hb => ?_) (fun hb => ?_)
      · rw [ebt j hj] at hb
        have hw : pS C S a j = true := by
          by_cases e : pS C S a j = true
          · exact e
          · rw [if_neg e] at hb; cases hb
        have g1 := oA_ge (P := pS C S a) (w := wt C S) hj hw
        rw [if_pos hw] at h
        refine jw_u rfl ⟨fun c => absurd c n10, fun _ => ?_⟩
        iterate 4 refine jw_u rfl ?_
        refine m_marksOf b3 s1 c5 w1 b5 hj ?_
        refine jw_u rfl ?_
        refine jtopL (np j) ?_
        refine jw_u rfl ⟨(dv j).1, ?_⟩
        refine jtopL (dv j).2 ?_
        iterate 3 refine jw_u rfl ?_
        refine jw_u rfl ⟨?_, ?_⟩
        · intro e
          have := (pk_lEQ (a := oA (pS C S a) (wt C S) (cN C)) (b := 0) (by omega) (by decide)).mp e
          omega
        refine jtopL (v' := lN (wt C S j * 1000000 / oA (pS C S a) (wt C S) (cN C))) ?_ ?_
        · show lN _ * lN 1000000 / lN _ = _
          rw [lN_mul, pk_lDiv (a := wt C S j * 1000000) (by omega) (by omega) (by omega)]
        refine jw_u rfl ?_
        refine jtop (lN_i _) ?_
        iterate 2 refine jw_u rfl ?_
        exact ⟨fun h => (by cases h), h⟩
      · rw [ebt j hj] at hb
        rw [if_neg (fun e => by rw [if_pos e] at hb; cases hb)] at h
        refine jw_u rfl ⟨fun _ => ?_, fun c => absurd n00 c⟩
        iterate 2 refine jw_u rfl ?_
        exact ⟨fun h => (by cases h), h⟩
    · rw [nI_s i, oA] at ih
      iterate 3 refine jw_u rfl ?_
      refine jw_u rfl ⟨fun (c' : x 121 5 ≤ nI i) => absurd c' (by rw [c3]; exact nI_ge hi (by omega)), fun _ => ?_⟩
      iterate 4 refine jw_u rfl ?_
      refine m_has (by omega) (by omega) (fun hb => ?_) (fun hb => ?_)
      · rw [ebt i hi] at hb
        have hw : pS C S a i = true := by
          by_cases e : pS C S a i = true
          · exact e
          · rw [if_neg e] at hb; cases hb
        rw [if_pos hw] at ih
        refine jw_u rfl ⟨fun c => absurd c n10, fun _ => ?_⟩
        iterate 4 refine jw_u rfl ?_
        refine m_marksOf b3 s1 c5 w1 b5 hi ?_
        refine jw_u rfl ?_
        refine jtopL (np i) ?_
        refine jw_u rfl ⟨(dv i).1, ?_⟩
        refine jtopL (dv i).2 ?_
        iterate 2 refine jw_u rfl ?_
        refine jtopL (lN_add _ _) ?_
        iterate 3 refine jw_u rfl ?_
        exact ih
      · rw [ebt i hi] at hb
        rw [if_neg (fun e => by rw [if_pos e] at hb; cases hb)] at ih
        refine jw_u rfl ⟨fun _ => ?_, fun c => absurd n00 c⟩
        iterate 2 refine jw_u rfl ?_
        refine jtopL (lN_add _ 0) ?_
        iterate 3 refine jw_u rfl ?_
        exact ih
  iterate 5 refine jw_u rfl ?_
  exact loop 0 (Nat.zero_le _)
theorem m_makersOfSeen {sc : Nat} {sf : Nat → Nat} (hC : mC x C) (hS : mS x 0 (cN C) S) (wc : wC C) (ws : wS (cN C) S) (h7 : x 121 27 = nI sc) (b7 : sc ≤ 8) (hf : ∀ k, k < sc → x 133 k = nI (sf k)) (bf : ∀ k, k < sc → sf k < 1000) (h : Q (some (.int (nI (mb C S sf sc)))) x) : jo (d + 5) 146 [.ref 121] x Q := by
  obtain ⟨-, -, c3, -, c5, -⟩ := hC
  obtain ⟨s1, -⟩ := hS
  obtain ⟨-, -, b3, -, b5, -⟩ := wc
  obtain ⟨w1, -⟩ := ws
  have g2 := p2 b3
  have b9 : 1 ≤ 2 ^ cN C := Nat.one_le_two_pow
  have loop : ∀ i, i ≤ sc → jw (d + 4) kX7_makersOfSeen Q 9 [some (.ref 121), some (.int (nI (mb C S sf i))), some (.int (nI i))] [] x := by
    refine dn _ sc ?_ (fun i hi ih => ?_)
    · iterate 3 refine jw_u rfl ?_
      refine jw_u rfl ⟨fun _ => ?_, fun (c' : ¬ x 121 27 ≤ nI sc) => absurd (by rw [h7]; exact Int32.le_refl _) c'⟩
      iterate 2 refine jw_u rfl ?_
      exact ⟨fun h => (by cases h), h⟩
    · rw [nI_s i] at ih
      iterate 3 refine jw_u rfl ?_
      refine jw_u rfl ⟨fun (c' : x 121 27 ≤ nI i) => absurd c' (by rw [h7]; exact nI_ge hi (by omega)), fun _ => ?_⟩
      iterate 5 refine jw_u rfl ?_
      refine jw_u rfl (jaN (o := 133) (show i < 8 by omega) (by decide) (hf i hi) ?_)
      refine jw_u rfl ?_
      refine m_whoseIs c3 b3 s1 c5 w1 b5 (bf i hi) ?_
      have e : sb (fun j => nr (sf i) (sH S j) (cSl C j)) (cN C) = nI (sn (pS C S (sf i)) (cN C)) := sb_sn _ _ b3
      have g3 := sn_lt (pS C S (sf i)) (cN C)
      refine jtop e ?_
      refine jw_u rfl ?_
      refine jtop (nI_and _ _ (mb_lt b3 i) (by omega)) ?_
      iterate 3 refine jw_u rfl ?_
      exact ih
  refine jo_i rfl rfl (Nat.le_of_ble_eq_true rfl) ?_
  iterate 3 refine jw_u rfl ?_
  refine jtop c3 ?_
  refine jw_u rfl ?_
  refine jtop (shl1 _ (by omega)) ?_
  iterate 2 refine jw_u rfl ?_
  refine jtop (pk_sub (b := 1) b9) ?_
  iterate 3 refine jw_u rfl ?_
  exact loop 0 (Nat.zero_le _)
theorem m_madeBy {sc : Nat} {sf : Nat → Nat} (hC : mC x C) (hS : mS x 0 (cN C) S) (wc : wC C) (ws : wS (cN C) S) (h7 : x 121 27 = nI sc) (b7 : sc ≤ 8) (hf : ∀ k, k < sc → x 133 k = nI (sf k)) (bf : ∀ k, k < sc → sf k < 1000) (h : Q (some (.int (nI (mb C S sf sc)))) x) : jo (d + 6) 147 [.ref 121] x Q := by
  refine jo_i rfl rfl (Nat.le_of_ble_eq_true rfl) ?_
  iterate 2 refine jw_u rfl ?_
  refine m_makersOfSeen hC hS wc ws h7 b7 hf bf ?_
  refine jw_u rfl ?_
  exact ⟨fun h => (by cases h), h⟩
set_option maxHeartbeats 1000000 in
theorem m_lookAt {sc : Nat} {sf : Nat → Nat} (hC : mC x C) (hS : mS x 0 (cN C) S) (wc : wC C) (ws : wS (cN C) S) (h7 : x 121 27 = nI sc) (b7 : sc ≤ 8) (hf : ∀ k, k < sc → x 133 k = nI (sf k)) (bf : ∀ k, k < sc → sf k < 1000) (h : Q (some (.int (fLook C S sc sf))) x) : jo (d + 6) 148 [.ref 121] x Q := by
  have b3 := wc.2.2.1
  have c3 := hC.2.2.1
  have g1 := mb_lt (S := S) (sf := sf) b3 sc
  have g2 := pp_le (mb C S sf sc)
  unfold fLook at h
  refine jo_i rfl rfl (Nat.le_of_ble_eq_true rfl) ?_
  iterate 2 refine jw_u rfl ?_
  refine m_makersOfSeen hC hS wc ws h7 b7 hf bf ?_
  generalize mb C S sf sc = s at g1 g2 h ⊢
  have g3 : ∀ w, lkF C S s w ≤ 8 := fun w => mA_le (fun k => Nat.le_trans (cA_le _ _) b3) 10
  have loop : ∀ i, i ≤ 3 → ∀ g5 g6 g7 g8, jw (d + 5) kX7_lookAt Q 10 [some (.ref 121), some (.int (nI s)), some (.int (oI (lB (lkF C S s) (pp s) i).1)), some (.int (nI (lB (lkF C S s) (pp s) i).2)), some (.int (nI i)), g5, g6, g7, g8] [] x := by
    refine dn _ 3 (fun g5 g6 g7 g8 => ?_) (fun i hi ih g5 g6 g7 g8 => ?_)
    · iterate 2 refine jw_u rfl ?_
      refine jw_u rfl ⟨fun _ => ?_, fun (c' : ¬ nI 3 ≤ nI 3) => absurd (Int32.le_refl _) c'⟩
      iterate 2 refine jw_u rfl ?_
      exact ⟨fun h => (by cases h), h⟩
    · have g4 := lB_le (F := lkF C S s) (z := pp s) i
      have g5' := g3 i
      have lv : ∀ v, v ≤ 10 → ∀ g7 g8, jw (d + 5) kX7_lookAt Q 17 [some (.ref 121), some (.int (nI s)), some (.int (oI (lB (lkF C S s) (pp s) i).1)), some (.int (nI (lB (lkF C S s) (pp s) i).2)), some (.int (nI i)), some (.int (nI (mA (fun f => cA (fun p => bt s p == 1 && dg (sH S p) i == f) (cN C)) v))), some (.int (nI v)), g7, g8] [] x := by
        refine dn _ 10 (fun g7 g8 => ?_) (fun v hv ihv g7 g8 => ?_)
        · iterate 2 refine jw_u rfl ?_
          refine jw_u rfl ⟨fun _ => ?_, fun (c' : ¬ nI 10 ≤ nI 10) => absurd (Int32.le_refl _) c'⟩
          have ih := ih (some (.int (nI (lkF C S s i)))) (some (.int (nI 10))) g7 g8
          rw [nI_s i, lB] at ih
          show jw _ _ _ _ [some (.ref 121), some (.int (nI s)), some (.int (oI (lB (lkF C S s) (pp s) i).1)), some (.int (nI (lB (lkF C S s) (pp s) i).2)), some (.int (nI i)), some (.int (nI (lkF C S s i))), some (.int (nI 10)), g7, g8] _ _
          generalize lkF C S s i = G at g5' ih ⊢
          generalize lB (lkF C S s) (pp s) i = B at g4 ih ⊢
          iterate 2 refine jw_u rfl ?_
          refine jw_u rfl ⟨fun (c' : nI B.2 ≤ nI G) => ?_, fun (c' : ¬ nI B.2 ≤ nI G) => ?_⟩
          · rw [nI_leI (by omega) (by omega)] at c'
            rw [if_neg (by omega)] at ih
            iterate 4 refine jw_u rfl ?_
            refine jw_u rfl ⟨fun _ => ?_, fun (c2 : ¬ nI B.2 ≤ nI G) => absurd (nI_le c' (by omega)) c2⟩
            iterate 4 refine jw_u rfl ?_
            exact ih
          · rw [nI_leI (by omega) (by omega)] at c'
            rw [if_pos (by omega)] at ih
            iterate 5 refine jw_u rfl ?_
            refine jw_u rfl ⟨fun (c2 : nI B.2 ≤ nI G) => absurd c2 (nI_ge (by omega) (by omega)), fun _ => ?_⟩
            iterate 5 refine jw_u rfl ?_
            exact ih
        · have bm : mA (fun f => cA (fun p => bt s p == 1 && dg (sH S p) i == f) (cN C)) v ≤ 8 := mA_le (fun k => Nat.le_trans (cA_le _ _) b3) v
          have bv := Nat.le_trans (cA_le (fun p => bt s p == 1 && dg (sH S p) i == v) (cN C)) b3
          have lp : ∀ p, p ≤ cN C → jw (d + 5) kX7_lookAt Q 24 [some (.ref 121), some (.int (nI s)), some (.int (oI (lB (lkF C S s) (pp s) i).1)), some (.int (nI (lB (lkF C S s) (pp s) i).2)), some (.int (nI i)), some (.int (nI (mA (fun f => cA (fun p => bt s p == 1 && dg (sH S p) i == f) (cN C)) v))), some (.int (nI v)), some (.int (nI (cA (fun p => bt s p == 1 && dg (sH S p) i == v) p))), some (.int (nI p))] [] x := by
            refine dn _ (cN C) ?_ (fun p hp ihp => ?_)
            · iterate 3 refine jw_u rfl ?_
              refine jw_u rfl ⟨fun _ => ?_, fun (c' : ¬ x 121 5 ≤ nI (cN C)) => absurd (by rw [c3]; exact Int32.le_refl _) c'⟩
              have ihv := ihv (some (.int (nI (cA (fun p => bt s p == 1 && dg (sH S p) i == v) (cN C))))) (some (.int (nI (cN C))))
              rw [nI_s v, mA] at ihv
              iterate 2 refine jw_u rfl ?_
              refine jw_u rfl ⟨fun (c' : nI (cA (fun p => bt s p == 1 && dg (sH S p) i == v) (cN C)) ≤ nI (mA (fun f => cA (fun p => bt s p == 1 && dg (sH S p) i == f) (cN C)) v)) => ?_, fun (c' : ¬ nI (cA (fun p => bt s p == 1 && dg (sH S p) i == v) (cN C)) ≤ nI (mA (fun f => cA (fun p => bt s p == 1 && dg (sH S p) i == f) (cN C)) v)) => ?_⟩
              · rw [nI_leI (by omega) (by omega)] at c'
                rw [Nat.max_eq_left c'] at ihv
                iterate 4 refine jw_u rfl ?_
                exact ihv
              · rw [nI_leI (by omega) (by omega)] at c'
                rw [Nat.max_eq_right (by omega)] at ihv
                iterate 5 refine jw_u rfl ?_
                exact ihv
            · have bd : dg (sH S p) i < 10 := dg_lt (ws.1 p hp)
              rw [nI_s p, cA] at ihp
              iterate 3 refine jw_u rfl ?_
              refine jw_u rfl ⟨fun (c' : x 121 5 ≤ nI p) => absurd c' (by rw [c3]; exact nI_ge hp (by omega)), fun _ => ?_⟩
              have no : ¬ (bt s p == 1 && dg (sH S p) i == v) = true → jw (d + 5) kX7_lookAt Q 45 [some (.ref 121), some (.int (nI s)), some (.int (oI (lB (lkF C S s) (pp s) i).1)), some (.int (nI (lB (lkF C S s) (pp s) i).2)), some (.int (nI i)), some (.int (nI (mA (fun f => cA (fun p => bt s p == 1 && dg (sH S p) i == f) (cN C)) v))), some (.int (nI v)), some (.int (nI (cA (fun p => bt s p == 1 && dg (sH S p) i == v) p))), some (.int (nI p))] [.int (nI (cA (fun p => bt s p == 1 && dg (sH S p) i == v) p))] x := by
                intro hn
                rw [if_neg hn] at ihp
                iterate 2 refine jw_u rfl ?_
                refine jtop (nI_add _ 0) ?_
                iterate 3 refine jw_u rfl ?_
                exact ihp
              iterate 4 refine jw_u rfl ?_
              refine m_has g1 (by omega) (fun hb => ?_) (fun hb => ?_)
              · refine jw_u rfl ⟨fun c => absurd c n10, fun _ => ?_⟩
                iterate 5 refine jw_u rfl ?_
                refine jtop (nI_add 2 p) ?_
                refine jw_u rfl (jaN (o := 122) (show 2 + p < 648 by omega) (by decide) (hS.1 p hp) ?_)
                iterate 2 refine jw_u rfl ?_
                refine m_partOf (ws.1 p hp) hi ?_
                refine jw_u rfl ?_
                refine jw_u rfl ⟨fun (c2 : ¬ nI (dg (sH S p) i) = nI v) => ?_, fun (c2 : nI (dg (sH S p) i) = nI v) => ?_⟩
                · rw [nI_eq (by omega) (by omega)] at c2
                  exact no (by simp [c2])
                · rw [nI_eq (by omega) (by omega)] at c2
                  rw [if_pos (by simp [hb, c2])] at ihp
                  iterate 3 refine jw_u rfl ?_
                  refine jtop (nI_add _ 1) ?_
                  iterate 3 refine jw_u rfl ?_
                  exact ihp
              · refine jw_u rfl ⟨fun _ => no (by simp [hb]), fun c => absurd n00 c⟩
          iterate 2 refine jw_u rfl ?_
          refine jw_u rfl ⟨fun (c' : nI 10 ≤ nI v) => absurd c' (nI_ge hv (by decide)), fun _ => ?_⟩
          iterate 4 refine jw_u rfl ?_
          exact lp 0 (Nat.zero_le _)
      iterate 2 refine jw_u rfl ?_
      refine jw_u rfl ⟨fun (c' : nI 3 ≤ nI i) => absurd c' (nI_ge hi (by decide)), fun _ => ?_⟩
      iterate 4 refine jw_u rfl ?_
      exact lv 0 (Nat.zero_le _) g7 g8
  iterate 5 refine jw_u rfl ?_
  refine m_ones g1 ?_
  iterate 3 refine jw_u rfl ?_
  exact loop 0 (Nat.zero_le _) none none none none
theorem m_judge {ec : Nat} {ep em : Nat → Nat} (hC : mC x C) (hS : mS x 0 (cN C) S) (wc : wC C) (ws : wS (cN C) S) (h8 : x 121 29 = nI ec) (b8 : ec ≤ 15) (hp : ∀ k, k < ec → x 134 k = nI (ep k)) (bp : ∀ k, k < ec → ep k < cN C) (hm : ∀ k, k < ec → x 135 k = nI (em k)) (bm : ∀ k, k < ec → em k < 1000) (h : Q (some (.int (fJudge S ec ep em))) x) : jo (d + 1) 151 [.ref 121] x Q := by
  have b3 := wc.2.2.1
  have loop : ∀ i, i ≤ ec → Q (some (.int (on1 (fun k => sH S (ep k) != em k) (ec - i) i))) x → jw d kX7_judge Q 2 [some (.ref 121), some (.int (nI i))] [] x := by
    refine dn _ ec (fun hq => ?_) (fun i hi ih hq => ?_)
    · rw [Nat.sub_self] at hq
      iterate 3 refine jw_u rfl ?_
      refine jw_u rfl ⟨fun _ => ?_, fun (c' : ¬ x 121 29 ≤ nI ec) => absurd (by rw [h8]; exact Int32.le_refl _) c'⟩
      iterate 2 refine jw_u rfl ?_
      exact ⟨fun h => (by cases h), jret jm1 hq⟩
    · have e1 := bp i hi
      have e2 := bm i hi
      have e3 := ws.1 _ e1
      rw [show ec - i = (ec - (i + 1)) + 1 by omega, on1] at hq
      iterate 3 refine jw_u rfl ?_
      refine jw_u rfl ⟨fun (c' : x 121 29 ≤ nI i) => absurd c' (by rw [h8]; exact nI_ge hi (by omega)), fun _ => ?_⟩
      iterate 6 refine jw_u rfl ?_
      refine jw_u rfl (jaN (o := 134) (show i < 15 by omega) (by decide) (hp i hi) ?_)
      refine jw_u rfl ?_
      refine jtop (nI_add 2 _) ?_
      refine jw_u rfl (jaN (o := 122) (show 2 + ep i < 648 by omega) (by decide) (hS.1 _ e1) ?_)
      iterate 3 refine jw_u rfl ?_
      refine jw_u rfl (jaN (o := 135) (show i < 15 by omega) (by decide) (hm i hi) ?_)
      refine jw_u rfl ⟨fun (c' : nI (sH S (ep i)) = nI (em i)) => ?_, fun (c' : ¬ nI (sH S (ep i)) = nI (em i)) => ?_⟩
      · rw [nI_eq (by omega) (by omega)] at c'
        rw [if_neg (by simp [c'])] at hq
        have := ih hq
        rw [nI_s i] at this
        iterate 2 refine jw_u rfl ?_
        exact this
      · rw [nI_eq (by omega) (by omega)] at c'
        rw [if_pos (by simp [c'])] at hq
        iterate 2 refine jw_u rfl ?_
        exact ⟨fun h => (by cases h), hq⟩
  refine jo_i rfl rfl (Nat.le_of_ble_eq_true rfl) ?_
  iterate 2 refine jw_u rfl ?_
  exact loop 0 (Nat.zero_le _) h
end MF
end
section
/-! THE REFERENCE: years, the heir, one, the most -/
section MG
variable {d n : Nat} {x : jM} {Q : Option Value → jM → Prop} {hd sl dr : Nat → Nat}
set_option maxHeartbeats 1000000 in
theorem m_passesYear {r y g : Nat} (hr : r ≤ 600) (hy : y ≤ 100000) (hn : x 121 5 = nI n) (h8 : n ≤ 8) (hg : x 121 4 = nI g) (bg : g < 1000) (hdr : ∀ k, k < n → x 125 k = nI (dr k)) (br : ∀ k, k < n → dr k ≤ 2) (hh : ∀ k, k < n → x 122 (r + 2 + k) = nI (hd k)) (bh : ∀ k, k < n → hd k < 1000) (hyr : x 122 r = nI y)
    (h : ∀ x', (∀ i, i ≠ 122 → x' i = x i) → (∀ k, k < n → x' 122 (r + 2 + k) = nI (ag (hd k) (dr k) g (y % 2))) → x' 122 r = nI (y + 1) → (∀ j, j < r ∨ j = r + 1 ∨ r + 2 + n ≤ j → x' 122 j = x 122 j) → Q none x') : jo (d + 2) 116 [.ref 121, .int (nI r)] x Q := by
  have loop : ∀ p, p ≤ n → ∀ x1 g3 g4 g5 g6 g7, (∀ i, i ≠ 122 → x1 i = x i) → (∀ k, k < n → x1 122 (r + 2 + k) = nI (if k < p then ag (hd k) (dr k) g (y % 2) else hd k)) → (∀ j, j < r + 2 ∨ r + 2 + n ≤ j → x1 122 j = x 122 j) → jw (d + 1) kX7_passesYear Q 2 [some (.ref 121), some (.int (nI r)), some (.int (nI p)), g3, g4, g5, g6, g7] [] x1 := by
    refine dn _ n (fun x1 g3 g4 g5 g6 g7 f1 f2 f3 => ?_) (fun p hp ih x1 g3 g4 g5 g6 g7 f1 f2 f3 => ?_)
    · have e5 : x1 121 5 = nI n := by rw [f1 121 (by decide)]; exact hn
      have ey : x1 122 (r + 0) = nI y := by rw [Nat.add_zero, f3 r (by omega)]; exact hyr
      iterate 3 refine jw_u rfl ?_
      refine jw_u rfl ⟨fun _ => ?_, fun (c' : ¬ x1 121 5 ≤ nI n) => absurd (by rw [e5]; exact Int32.le_refl _) c'⟩
      iterate 5 refine jw_u rfl ?_
      refine jtop (nI_add r 0) ?_
      refine jw_u rfl ?_
      refine jw_u rfl (jaN (o := 122) (show r + 0 < 648 by omega) (by decide) ey ?_)
      iterate 2 refine jw_u rfl ?_
      refine jtop (nI_add y 1) ?_
      refine jw_u rfl (jsN (o := 122) (j := r + 0) (show r + 0 < 648 by omega) (by decide) ?_)
      refine jw_u rfl ?_
      refine h _ (fun i hi => by rw [ju_oo hi]; exact f1 i hi) (fun k hk => by rw [ju_k (by omega), f2 k hk, if_pos hk]) (ju_s _ _ _ _) (fun j hj => by rw [ju_k (by omega)]; exact f3 j (by omega))
    · have e5 : x1 121 5 = nI n := by rw [f1 121 (by decide)]; exact hn
      have eg : x1 121 4 = nI g := by rw [f1 121 (by decide)]; exact hg
      have ed : x1 125 p = nI (dr p) := by rw [f1 125 (by decide)]; exact hdr p hp
      have eh : x1 122 (r + 2 + p) = nI (hd p) := by rw [f2 p hp, if_neg (Nat.lt_irrefl _)]
      have ey : x1 122 (r + 0) = nI y := by rw [Nat.add_zero, f3 r (by omega)]; exact hyr
      have ba := bh p hp
      have bd := br p hp
      iterate 3 refine jw_u rfl ?_
      refine jw_u rfl ⟨fun (c' : x1 121 5 ≤ nI p) => absurd c' (by rw [e5]; exact nI_ge hp (by omega)), fun _ => ?_⟩
      iterate 5 refine jw_u rfl ?_
      refine jtop (nI_add r 2) ?_
      iterate 2 refine jw_u rfl ?_
      refine jtop (nI_add (r + 2) p) ?_
      refine jw_u rfl (jaN (o := 122) (show r + 2 + p < 648 by omega) (by decide) eh ?_)
      iterate 3 refine jw_u rfl ?_
      refine jw_u rfl ⟨by decide, ?_⟩
      refine jtop (d1 ba) ?_
      iterate 3 refine jw_u rfl ?_
      refine jtop eg ?_
      refine jw_u rfl ?_
      refine jw_u rfl ⟨by decide, ?_⟩
      refine jtop (d1 bg) ?_
      have next : ∀ v g4 g5 g6 g7, v = nI (ag (hd p) (dr p) g (y % 2)) → jw (d + 1) kX7_passesYear Q 93 [some (.ref 121), some (.int (nI r)), some (.int (nI p)), some (.int (nI (hd p))), g4, g5, g6, g7] [.int v, .int (nI (r + 2 + p)), .ref 122] x1 := by
        intro v g4 g5 g6 g7 hv
        refine jw_u rfl (jsN (o := 122) (show r + 2 + p < 648 by omega) (by decide) ?_)
        iterate 2 refine jw_u rfl ?_
        have := ih (ju x1 122 (r + 2 + p) v) (some (.int (nI (hd p)))) g4 g5 g6 g7 (fun i hi => by rw [ju_oo hi]; exact f1 i hi) (fun k hk => by
          by_cases e : k = p
          · subst e
            rw [ju_s, if_pos (Nat.lt_succ_self _)]
            exact hv
          · rw [ju_k (by omega), f2 k hk]
            by_cases h9 : k < p
            · rw [if_pos h9, if_pos (by omega)]
            · rw [if_neg h9, if_neg (by omega)]) (fun j hj => by rw [ju_k (by omega)]; exact f3 j hj)
        rw [nI_s p] at this
        exact this
      have hag : ag (hd p) (dr p) g (y % 2) = 100 * (if hd p / 100 < g / 100 then min (hd p / 100 + dr p) (g / 100) else max (hd p / 100 - dr p) (g / 100)) + 10 * (hd p / 10 % 10) + (if y % 2 = 1 then hd p % 10 - 1 else hd p % 10) := rfl
      have d2a := d2 ba
      have d3a := d3 ba
      have bu : hd p / 100 < 10 := by omega
      have bv : g / 100 < 10 := by omega
      have bm : hd p % 10 < 10 := by omega
      generalize hd p / 100 = u at hag bu ⊢
      generalize g / 100 = v at hag bv ⊢
      generalize hd p / 10 % 10 = m1 at hag d2a ⊢
      generalize hd p % 10 = m at hag d3a bm ⊢
      have press : ∀ le pv, le = (if u < v then min (u + dr p) v else max (u - dr p) v) → ((pv < 0 ∧ (if y % 2 = 1 then m - 1 else m) = 0) ∨ pv = nI (if y % 2 = 1 then m - 1 else m)) → ∀ g5 g6 g7, jw (d + 1) kX7_passesYear Q 68 [some (.ref 121), some (.int (nI r)), some (.int (nI p)), some (.int (nI (hd p))), some (.int (nI le)), g5, some (.int g6), g7] [.int pv] x1 := by
        intro le pv hle hpv g5 g6 g7
        rw [← hle] at hag
        iterate 6 refine jw_u rfl ?_
        refine jtop (nI_add r 2) ?_
        iterate 2 refine jw_u rfl ?_
        refine jtop (nI_add (r + 2) p) ?_
        iterate 3 refine jw_u rfl ?_
        refine jtop (pk_mul 100 le) ?_
        iterate 3 refine jw_u rfl ?_
        refine jw_u rfl ⟨by decide, ?_⟩
        refine jw_u rfl ?_
        refine jw_u rfl ⟨by decide, ?_⟩
        refine jtop d2a ?_
        refine jw_u rfl ?_
        refine jtop (pk_mul 10 m1) ?_
        refine jw_u rfl ?_
        refine jtop (nI_add _ _) ?_
        refine jw_u rfl ?_
        rcases hpv with ⟨hneg, hz⟩ | hpv
        · refine jw_u rfl ⟨fun (c : 0 ≤ pv) => absurd hneg (by simpa using c), fun _ => ?_⟩
          iterate 3 refine jw_u rfl ?_
          refine next _ _ _ _ _ ?_
          show nI _ + nI 0 = _
          rw [nI_add, hag, hz]
        · have bz : (if y % 2 = 1 then m - 1 else m) < 10 := by split <;> omega
          refine jw_u rfl ⟨fun _ => ?_, fun (c : ¬ 0 ≤ pv) => absurd (by rw [hpv]; exact nI_pos' (by omega)) c⟩
          iterate 2 refine jw_u rfl ?_
          refine next _ _ _ _ _ ?_
          rw [hpv, nI_add, hag]
      have lean : ∀ le g5 g6 g7, le = (if u < v then min (u + dr p) v else max (u - dr p) v) → jw (d + 1) kX7_passesYear Q 50 [some (.ref 121), some (.int (nI r)), some (.int (nI p)), some (.int (nI (hd p))), some (.int (nI u)), g5, some (.int g6), g7] [.int (nI le)] x1 := by
        intro le g5 g6 g7 hle
        iterate 3 refine jw_u rfl ?_
        refine jw_u rfl ⟨by decide, ?_⟩
        refine jtop d3a ?_
        iterate 5 refine jw_u rfl ?_
        refine jtop (nI_add r 0) ?_
        refine jw_u rfl (jaN (o := 122) (show r + 0 < 648 by omega) (by decide) ey ?_)
        refine jw_u rfl ?_
        refine jw_u rfl ⟨by decide, ?_⟩
        refine jtop (pk_rem (a := y) (d := 2) (by omega) (by decide) (by decide)) ?_
        refine jw_u rfl ?_
        refine jw_u rfl ⟨fun (c' : ¬ nI (y % 2) = nI 1) => ?_, fun (c' : nI (y % 2) = nI 1) => ?_⟩
        · rw [nI_eq (by omega) (by decide)] at c'
          iterate 2 refine jw_u rfl ?_
          refine press le _ hle (Or.inr ?_) g5 g6 g7
          rw [if_neg c']
          exact pk_sub (b := 0) (Nat.zero_le _)
        · rw [nI_eq (by omega) (by decide)] at c'
          iterate 3 refine jw_u rfl ?_
          by_cases hm : m = 0
          · refine press le _ hle (Or.inl ⟨?_, by rw [if_pos c', hm]⟩) g5 g6 g7
            rw [hm]
            decide
          · refine press le _ hle (Or.inr ?_) g5 g6 g7
            rw [if_pos c']
            exact pk_sub (b := 1) (by omega)
      have stp : ∀ st g6 g7, st = min (ds u v) (dr p) → jw (d + 1) kX7_passesYear Q 40 [some (.ref 121), some (.int (nI r)), some (.int (nI p)), some (.int (nI (hd p))), some (.int (nI u)), some (.int (nI v)), g6, g7] [.int (nI st)] x1 := by
        intro st g6 g7 hst
        iterate 4 refine jw_u rfl ?_
        refine jw_u rfl ⟨fun (c' : nI v ≤ nI u) => ?_, fun (c' : ¬ nI v ≤ nI u) => ?_⟩
        · rw [nI_leI (by omega) (by omega)] at c'
          rw [ds, if_neg (by omega)] at hst
          iterate 3 refine jw_u rfl ?_
          refine jtop (v' := nI (u - st)) ((Int32.sub_eq_add_neg _ _).symm.trans (pk_sub (by omega))) ?_
          exact lean (u - st) _ _ _ (by rw [if_neg (by omega)]; omega)
        · rw [nI_leI (by omega) (by omega)] at c'
          rw [ds, if_pos (by omega)] at hst
          iterate 3 refine jw_u rfl ?_
          refine jtop (nI_add u st) ?_
          exact lean (u + st) _ _ _ (by rw [if_pos (by omega)]; omega)
      have bds : ds u v < 10 := by unfold ds; split <;> omega
      iterate 4 refine jw_u rfl ?_
      refine m_off (by omega) (by omega) ?_
      iterate 3 refine jw_u rfl ?_
      refine jw_u rfl (jaN (o := 125) (show p < 8 by omega) (by decide) ed ?_)
      refine jw_u rfl ⟨fun (c' : nI (dr p) ≤ nI (ds u v)) => ?_, fun (c' : ¬ nI (dr p) ≤ nI (ds u v)) => ?_⟩
      · rw [nI_leI (by omega) (by omega)] at c'
        iterate 3 refine jw_u rfl ?_
        refine jw_u rfl (jaN (o := 125) (show p < 8 by omega) (by decide) ed ?_)
        exact stp (dr p) _ _ (by rw [Nat.min_eq_right c'])
      · rw [nI_leI (by omega) (by omega)] at c'
        iterate 3 refine jw_u rfl ?_
        refine m_off (by omega) (by omega) ?_
        refine jw_u rfl ?_
        exact stp (ds u v) _ _ (by rw [Nat.min_eq_left (by omega)])
  refine jo_i rfl rfl (Nat.le_of_ble_eq_true rfl) ?_
  iterate 2 refine jw_u rfl ?_
  exact loop 0 (Nat.zero_le _) x none none none none none (fun _ _ => rfl) (fun k hk => by rw [if_neg (Nat.not_lt_zero _)]; exact hh k hk) (fun _ _ => rfl)
end MG
section MH
variable {d : Nat} {x : jM} {Q : Option Value → jM → Prop} {C : aC} {S : aS}
theorem m_heir {m : Int32} (hC : mC x C) (hS : mS x 0 (cN C) S) (wc : wC C) (ws : wS (cN C) S) (h : ∀ x', (∀ i, i ≠ 122 → x' i = x i) → (∀ j, j < 27 ∨ 53 < j → x' 122 j = x 122 j) → Q (some (.int (fHeir C S m))) x') : jo (d + 3) 138 [.ref 121, .int m] x Q := by
  obtain ⟨-, c2, c3, -, c5, c6, -⟩ := hC
  obtain ⟨-, b2, b3, -, b5, b6, -⟩ := wc
  obtain ⟨w1, w2, w3, w4, w5⟩ := ws
  refine jo_i rfl rfl (Nat.le_of_ble_eq_true rfl) ?_
  iterate 5 refine jw_u rfl ?_
  unfold fHeir at h
  refine m_in (a := 0) (b := 60) (by decide) (by decide) (fun hi => ?_) (fun hi => ?_)
  rotate_left
  · rw [if_neg (fun hc => hi (by have := (ri (by decide)).mp hc; omega))] at h
    refine jw_u rfl ⟨fun c => absurd n00 c, fun _ => ?_⟩
    iterate 2 refine jw_u rfl ?_
    exact ⟨fun h => (by cases h), h x (fun _ _ => rfl) (fun _ _ => rfl)⟩
  have hm : 0 ≤ m ∧ m < nI 61 := (ri (by decide)).mpr (by omega)
  rw [if_pos hm] at h
  obtain ⟨j, hj, rfl⟩ := ilt (by decide) hm
  rw [nI_clamp (by omega)] at h
  refine jw_u rfl ⟨fun _ => ?_, fun c => absurd c n10⟩
  iterate 4 refine jw_u rfl ?_
  refine m_copy (a := 0) (b := 27) (by decide) (by decide) (Or.inl (by decide)) (fun x1 f1 f2 f3 => ?_)
  have e1 : ∀ k, k < cN C → x1 122 (27 + 2 + k) = nI (sH S k) := fun k hk => by
    rw [Nat.add_assoc, f2 (2 + k) (by omega), ← Nat.add_assoc]
    exact hS.1 k hk
  have e2 : x1 122 27 = nI (sY S) := by
    have := f2 0 (by decide)
    exact this.trans hS.2.2.2.2
  have b1 : ∀ i k, k < cN C → ya (cDr C k) (cG C) (sY S) (sH S k) i < 1000 := fun i k hk => ya_lt (w1 k hk) b2 i
  have last : ∀ x2, (∀ i, i ≠ 122 → x2 i = x i) → (∀ k, k < cN C → x2 122 (29 + k) = nI (ya (cDr C k) (cG C) (sY S) (sH S k) j)) → (∀ j, j < 27 ∨ 53 < j → x2 122 j = x 122 j) → jw (d + 2) kX7_heir Q 22 [some (.ref 121), some (.int (nI j)), some (.int (nI j)), none] [] x2 := by
    intro x2 g1 g2 g3
    have h := h x2 g1 g3
    have e5 : x2 121 5 = nI (cN C) := by rw [g1 121 (by decide)]; exact c3
    have e4 : x2 121 4 = nI (cG C) := by rw [g1 121 (by decide)]; exact c2
    have bf : ∀ k, k < cN C → ap (ya (cDr C k) (cG C) (sY S) (sH S k) j) (cG C) ≤ 27 := fun k hk => ap_lt (b1 j k hk) b2
    have loop : ∀ i, i ≤ cN C → jw (d + 2) kX7_heir Q 26 [some (.ref 121), some (.int (nI j)), some (.int (oI (am (fun p => ap (ya (cDr C p) (cG C) (sY S) (sH S p) j) (cG C)) (fun _ => true) i))), some (.int (nI i))] [] x2 := by
      refine dn _ (cN C) ?_ (fun i hi ih => ?_)
      · iterate 3 refine jw_u rfl ?_
        refine jw_u rfl ⟨fun _ => ?_, fun (c' : ¬ x2 121 5 ≤ nI (cN C)) => absurd (by rw [e5]; exact Int32.le_refl _) c'⟩
        iterate 2 refine jw_u rfl ?_
        exact ⟨fun h => (by cases h), h⟩
      · have q2 := bf i hi
        rw [nI_s i] at ih
        iterate 3 refine jw_u rfl ?_
        refine jw_u rfl ⟨fun (c' : x2 121 5 ≤ nI i) => absurd c' (by rw [e5]; exact nI_ge hi (by omega)), fun _ => ?_⟩
        cases hb : am (fun p => ap (ya (cDr C p) (cG C) (sY S) (sH S p) j) (cG C)) (fun _ => true) i with
        | none =>
          rw [am_yes (f := fun p => ap (ya (cDr C p) (cG C) (sY S) (sH S p) j) (cG C)) (ok := fun _ => true) rfl (Or.inl hb)] at ih
          iterate 2 refine jw_u rfl ?_
          refine jw_u rfl ⟨fun _ => ?_, fun c2 => absurd rfl c2⟩
          iterate 5 refine jw_u rfl ?_
          exact ih
        | some b =>
          have hbn := am_lt hb
          have q3 := bf b (by omega)
          iterate 2 refine jw_u rfl ?_
          refine jw_u rfl ⟨fun (c2 : nI b = jc (-1)) => absurd c2 (nm1 (by omega)), fun _ => ?_⟩
          iterate 5 refine jw_u rfl ?_
          refine jtop (nI_add 29 i) ?_
          refine jw_u rfl (jaN (o := 122) (show 29 + i < 648 by omega) (by decide) (g2 i hi) ?_)
          iterate 2 refine jw_u rfl ?_
          refine jtop e4 ?_
          refine jw_u rfl ?_
          refine m_apart (b1 j i hi) b2 ?_
          iterate 5 refine jw_u rfl ?_
          refine jtop (nI_add 29 b) ?_
          refine jw_u rfl (jaN (o := 122) (show 29 + b < 648 by omega) (by decide) (g2 b (by omega)) ?_)
          iterate 2 refine jw_u rfl ?_
          refine jtop e4 ?_
          refine jw_u rfl ?_
          refine m_apart (b1 j b (by omega)) b2 ?_
          refine jw_u rfl ⟨fun (c2 : nI (ap (ya (cDr C b) (cG C) (sY S) (sH S b) j) (cG C)) ≤ nI (ap (ya (cDr C i) (cG C) (sY S) (sH S i) j) (cG C))) => ?_, fun (c2 : ¬ nI (ap (ya (cDr C b) (cG C) (sY S) (sH S b) j) (cG C)) ≤ nI (ap (ya (cDr C i) (cG C) (sY S) (sH S i) j) (cG C))) => ?_⟩
          · rw [nI_leI (by omega) (by omega)] at c2
            rw [am_no (f := fun p => ap (ya (cDr C p) (cG C) (sY S) (sH S p) j) (cG C)) (ok := fun _ => true) (Or.inr ⟨b, hb, c2⟩), hb] at ih
            iterate 4 refine jw_u rfl ?_
            exact ih
          · rw [nI_leI (by omega) (by omega)] at c2
            rw [am_yes (f := fun p => ap (ya (cDr C p) (cG C) (sY S) (sH S p) j) (cG C)) (ok := fun _ => true) rfl (Or.inr ⟨b, hb, Nat.not_le.mp c2⟩)] at ih
            iterate 5 refine jw_u rfl ?_
            exact ih
    iterate 4 refine jw_u rfl ?_
    exact loop 0 (Nat.zero_le _)
  have years : ∀ i, i ≤ j → ∀ x2, (∀ i, i ≠ 122 → x2 i = x i) → (∀ k, k < cN C → x2 122 (27 + 2 + k) = nI (ya (cDr C k) (cG C) (sY S) (sH S k) i)) → x2 122 27 = nI (sY S + i) → (∀ j, j < 27 ∨ 53 < j → x2 122 j = x 122 j) → jw (d + 2) kX7_heir Q 14 [some (.ref 121), some (.int (nI j)), some (.int (nI i)), none] [] x2 := by
    refine dn _ j (fun x2 g1 g2 g3 g4 => ?_) (fun i hi ih x2 g1 g2 g3 g4 => ?_)
    · iterate 2 refine jw_u rfl ?_
      refine jw_u rfl ⟨fun _ => last x2 g1 g2 g4, fun (c' : ¬ nI j ≤ nI j) => absurd (Int32.le_refl _) c'⟩
    · iterate 2 refine jw_u rfl ?_
      refine jw_u rfl ⟨fun (c' : nI j ≤ nI i) => absurd c' (nI_ge hi (by omega)), fun _ => ?_⟩
      iterate 3 refine jw_u rfl ?_
      refine m_passesYear (r := 27) (y := sY S + i) (n := cN C) (g := cG C) (dr := cDr C) (hd := fun k => ya (cDr C k) (cG C) (sY S) (sH S k) i) (by decide) (by omega) (by rw [g1 121 (by decide)]; exact c3) b3 (by rw [g1 121 (by decide)]; exact c2) b2 (fun k hk => by rw [g1 125 (by decide)]; exact c6 k hk) b6 g2 (fun k hk => b1 i k hk) g3 (fun x3 y1 y2 y3 y4 => ?_)
      iterate 2 refine jw_u rfl ?_
      have := ih x3 (fun i hi => (y1 i hi).trans (g1 i hi)) (fun k hk => y2 k hk) y3 (fun j hj => by rw [y4 j (by omega)]; exact g4 j hj)
      rw [nI_s i] at this
      exact this
  iterate 2 refine jw_u rfl ?_
  exact years 0 (Nat.zero_le _) x1 f1 e1 e2 (fun j hj => f3 j (by omega))
theorem m_one {p q : Int32} (hC : mC x C) (hS : mS x 0 (cN C) S) (wc : wC C) (ws : wS (cN C) S) (h : ∀ x', (∀ i, i ≠ 122 → x' i = x i) → (∀ j, j < 27 ∨ 53 < j → x' 122 j = x 122 j) → Q (some (.int (fOne C S p q))) x') : jo (d + 4) 144 [.ref 121, .int p, .int q] x Q := by
  obtain ⟨-, c2, c3, -, c5, c6, -⟩ := hC
  obtain ⟨-, b2, b3, -, b5, b6, -⟩ := wc
  obtain ⟨w1, w2, w3, w4, w5⟩ := ws
  have out : ¬ ((0 ≤ p ∧ p < nI (cN C)) ∧ (0 ≤ q ∧ q < nI (cN C)) ∧ ¬ p = q) → jw (d + 3) kX7_one Q 11 [some (.ref 121), some (.int p), some (.int q), none] [] x := by
    intro hm
    have h := h x (fun _ _ => rfl) (fun _ _ => rfl)
    unfold fOne at h
    rw [if_neg hm] at h
    iterate 2 refine jw_u rfl ?_
    exact ⟨fun h => (by cases h), h⟩
  refine jo_i rfl rfl (Nat.le_of_ble_eq_true rfl) ?_
  iterate 3 refine jw_u rfl ?_
  refine m_isPerson c3 b3 (fun hp => ?_) (fun hp => ?_)
  rotate_left
  · refine jw_u rfl ⟨fun _ => out (fun hc => hp hc.1), fun c => absurd n00 c⟩
  refine jw_u rfl ⟨fun c => absurd c n10, fun _ => ?_⟩
  iterate 3 refine jw_u rfl ?_
  refine m_isPerson c3 b3 (fun hq => ?_) (fun hq => ?_)
  rotate_left
  · refine jw_u rfl ⟨fun _ => out (fun hc => hq hc.2.1), fun c => absurd n00 c⟩
  refine jw_u rfl ⟨fun c => absurd c n10, fun _ => ?_⟩
  iterate 2 refine jw_u rfl ?_
  refine jw_u rfl ⟨fun (c' : ¬ p = q) => ?_, fun (c' : p = q) => out (fun hc => hc.2.2 c')⟩
  have hm : (0 ≤ p ∧ p < nI (cN C)) ∧ (0 ≤ q ∧ q < nI (cN C)) ∧ ¬ p = q := ⟨hp, hq, c'⟩
  obtain ⟨j, hj, rfl⟩ := ilt (by omega) hp
  obtain ⟨k, hk, rfl⟩ := ilt (by omega) hq
  unfold fOne at h
  rw [if_pos hm, nI_clamp (by omega), nI_clamp (by omega)] at h
  iterate 4 refine jw_u rfl ?_
  refine m_copy (a := 0) (b := 27) (by decide) (by decide) (Or.inl (by decide)) (fun x1 f1 f2 f3 => ?_)
  have e1 : ∀ k, k < cN C → x1 122 (27 + 2 + k) = nI (sH S k) := fun k hk => by
    rw [Nat.add_assoc, f2 (2 + k) (by omega), ← Nat.add_assoc]
    exact hS.1 k hk
  have e2 : x1 122 27 = nI (sY S) := by
    have := f2 0 (by decide)
    exact this.trans hS.2.2.2.2
  have loop : ∀ t, t ≤ 61 → ∀ x2, (∀ i, i ≠ 122 → x2 i = x i) → (∀ k, k < cN C → x2 122 (27 + 2 + k) = nI (ya (cDr C k) (cG C) (sY S) (sH S k) t)) → x2 122 27 = nI (sY S + t) → (∀ j, j < 27 ∨ 53 < j → x2 122 j = x 122 j) → (∀ x', (∀ i, i ≠ 122 → x' i = x i) → (∀ j, j < 27 ∨ 53 < j → x' 122 j = x 122 j) → Q (some (.int (on1 (oneP C S j k) (61 - t) t))) x') → jw (d + 3) kX7_one Q 19 [some (.ref 121), some (.int (nI j)), some (.int (nI k)), some (.int (nI t))] [] x2 := by
    refine dn _ 61 (fun x2 g1 g2 g3 g4 hq => ?_) (fun t ht ih x2 g1 g2 g3 g4 hq => ?_)
    · iterate 2 refine jw_u rfl ?_
      refine jw_u rfl ⟨fun _ => ?_, fun (c' : ¬ nI 60 < nI 61) => absurd (by decide) c'⟩
      iterate 2 refine jw_u rfl ?_
      exact ⟨fun h => (by cases h), jret jm1 (hq x2 g1 g4)⟩
    · have b1 : ∀ k, k < cN C → ya (cDr C k) (cG C) (sY S) (sH S k) t < 1000 := fun k hk => ya_lt (w1 k hk) b2 t
      rw [show 61 - t = (61 - (t + 1)) + 1 by omega, on1] at hq
      iterate 2 refine jw_u rfl ?_
      refine jw_u rfl ⟨fun (c' : nI 60 < nI t) => absurd c' (nI_nlt (by omega) (by decide)), fun _ => ?_⟩
      iterate 5 refine jw_u rfl ?_
      refine m_told2 (r := 27) (hd := fun k => ya (cDr C k) (cG C) (sY S) (sH S k) t) (by decide) b3 g2 (fun k hk => by rw [g1 124 (by decide)]; exact c5 k hk) b1 b5 hj hk (fun hw => ?_) (fun hw => ?_)
      · have hw : oneP C S j k t = false := hw
        refine jw_u rfl ⟨fun _ => ?_, fun c => absurd c n10⟩
        iterate 3 refine jw_u rfl ?_
        refine m_passesYear (r := 27) (y := sY S + t) (n := cN C) (g := cG C) (dr := cDr C) (hd := fun k => ya (cDr C k) (cG C) (sY S) (sH S k) t) (by decide) (by omega) (by rw [g1 121 (by decide)]; exact c3) b3 (by rw [g1 121 (by decide)]; exact c2) b2 (fun k hk => by rw [g1 125 (by decide)]; exact c6 k hk) b6 g2 b1 g3 (fun x3 y1 y2 y3 y4 => ?_)
        iterate 2 refine jw_u rfl ?_
        have := ih x3 (fun i hi => (y1 i hi).trans (g1 i hi)) (fun k hk => y2 k hk) y3 (fun j hj => by rw [y4 j (by omega)]; exact g4 j hj) (fun x' h1 h2 => by
          have := hq x' h1 h2
          rw [if_neg (by rw [hw]; decide)] at this
          exact this)
        rw [nI_s t] at this
        exact this
      · have hw : oneP C S j k t = true := hw
        refine jw_u rfl ⟨fun c => absurd n00 c, fun _ => ?_⟩
        have := hq x2 g1 g4
        rw [if_pos hw] at this
        iterate 2 refine jw_u rfl ?_
        exact ⟨fun h => (by cases h), this⟩
  iterate 2 refine jw_u rfl ?_
  exact loop 0 (Nat.zero_le _) x1 f1 e1 e2 (fun j hj => f3 j (by omega)) h
def atP (n : Nat) (hd sl : Nat → Nat) (s p q : Nat) : Prop := ∀ p' q', (p' < p ∨ (p' = p ∧ q' < q)) → p' < q' → q' < n → bt s p' = 1 → bt s q' = 1 → nr (hd p') (hd q') (sl p' + sl q') = false
set_option maxHeartbeats 1000000 in
theorem m_most (hC : mC x C) (hS : mS x 0 (cN C) S) (wc : wC C) (ws : wS (cN C) S) (h : Q (some (.int (fMost C S))) x) : jo (d + 4) 134 [.ref 121] x Q := by
  obtain ⟨-, -, c3, -, c5, -⟩ := hC
  obtain ⟨s1, -⟩ := hS
  obtain ⟨-, -, b3, -, b5, -⟩ := wc
  obtain ⟨w1, -⟩ := ws
  have b2 := p2 b3
  have loop : ∀ i, i ≤ 2 ^ cN C → ∀ g3 g4 g5, jw (d + 3) kX7_most Q 4 [some (.ref 121), some (.int (nI (mo (cN C) (sH S) (cSl C) i))), some (.int (nI i)), g3, g4, g5] [] x := by
    refine dn _ (2 ^ cN C) (fun g3 g4 g5 => ?_) (fun i hi ih g3 g4 g5 => ?_)
    · iterate 4 refine jw_u rfl ?_
      refine jtop c3 ?_
      refine jw_u rfl ?_
      refine jtop (shl1 _ (by omega)) ?_
      refine jw_u rfl ⟨fun _ => ?_, fun (c' : ¬ nI (2 ^ cN C) ≤ nI (2 ^ cN C)) => absurd (Int32.le_refl _) c'⟩
      iterate 2 refine jw_u rfl ?_
      exact ⟨fun h => (by cases h), h⟩
    · have q0 := mo_le (cN C) (sH S) (cSl C) i
      have q1 := pp_le i
      have q2 := pp_le (mo (cN C) (sH S) (cSl C) i)
      have ih' := ih
      rw [nI_s i, mo] at ih'
      generalize mo (cN C) (sH S) (cSl C) i = B at q0 q2 ih' ⊢
      have fin : ∀ (b : Bool) g4 g5, (b = true ↔ (pp B < pp i ∧ atB (cN C) (sH S) (cSl C) i = true)) → jw (d + 3) kX7_most Q 59 [some (.ref 121), some (.int (nI B)), some (.int (nI i)), some (.int (nB b)), g4, g5] [] x := by
        intro b g4 g5 hb
        refine jw_u rfl ?_
        cases b with
        | false =>
          have ih' := ih' (some (.int (nB false))) g4 g5
          rw [if_neg (fun hc => by cases hb.mpr hc)] at ih'
          refine jw_u rfl ⟨fun _ => ?_, fun c => absurd n00 c⟩
          iterate 4 refine jw_u rfl ?_
          exact ih'
        | true =>
          have ih' := ih' (some (.int (nB true))) g4 g5
          rw [if_pos (hb.mp rfl)] at ih'
          refine jw_u rfl ⟨fun c => absurd c n10, fun _ => ?_⟩
          iterate 5 refine jw_u rfl ?_
          exact ih'
      iterate 4 refine jw_u rfl ?_
      refine jtop c3 ?_
      refine jw_u rfl ?_
      refine jtop (shl1 _ (by omega)) ?_
      refine jw_u rfl ⟨fun (c' : nI (2 ^ cN C) ≤ nI i) => absurd c' (nI_ge hi (by omega)), fun _ => ?_⟩
      iterate 2 refine jw_u rfl ?_
      refine m_ones (by omega) ?_
      iterate 2 refine jw_u rfl ?_
      refine m_ones (by omega) ?_
      refine jw_u rfl ⟨fun (c' : nI (pp i) ≤ nI (pp B)) => ?_, fun (c' : ¬ nI (pp i) ≤ nI (pp B)) => ?_⟩
      · rw [nI_leI (by omega) (by omega)] at c'
        have no : ∀ g5, jw (d + 3) kX7_most Q 59 [some (.ref 121), some (.int (nI B)), some (.int (nI i)), some (.int (nB false)), some (.int (nI 0)), g5] [] x := fun g5 => fin false _ g5 ⟨fun hc => (by cases hc), fun hc => absurd hc.1 (by omega)⟩
        iterate 4 refine jw_u rfl ?_
        iterate 3 refine jw_u rfl ?_
        refine jw_u rfl ⟨fun _ => no g5, fun _ => ?_⟩
        refine jw_u rfl ?_
        refine jw_u rfl ⟨fun _ => no g5, fun c => absurd n00 c⟩
      · rw [nI_leI (by omega) (by omega)] at c'
        have lp : ∀ p, p ≤ cN C → ∀ (b : Bool) g5, (b = true ↔ atP (cN C) (sH S) (cSl C) i p 0) → jw (d + 3) kX7_most Q 21 [some (.ref 121), some (.int (nI B)), some (.int (nI i)), some (.int (nB b)), some (.int (nI p)), g5] [] x := by
          refine dn _ (cN C) (fun b g5 hb => ?_) (fun p hp ihp b g5 hb => ?_)
          · iterate 3 refine jw_u rfl ?_
            refine jw_u rfl ⟨fun _ => ?_, fun (c' : ¬ x 121 5 ≤ nI (cN C)) => absurd (by rw [c3]; exact Int32.le_refl _) c'⟩
            refine fin b _ g5 ⟨fun hc => ⟨by omega, atB_iff.mpr (fun p q h1 h2 => hb.mp hc p q (by omega) h1 h2)⟩, fun hc => hb.mpr (fun p q _ h1 h2 => atB_iff.mp hc.2 p q h1 h2)⟩
          · have lq : ∀ q, q ≤ cN C → p < q → ∀ (b : Bool), (b = true ↔ atP (cN C) (sH S) (cSl C) i p q) → jw (d + 3) kX7_most Q 31 [some (.ref 121), some (.int (nI B)), some (.int (nI i)), some (.int (nB b)), some (.int (nI p)), some (.int (nI q))] [] x := by
              refine dn _ (cN C) (fun hpq b hb => ?_) (fun q hq ihq hpq b hb => ?_)
              · iterate 3 refine jw_u rfl ?_
                refine jw_u rfl ⟨fun _ => ?_, fun (c' : ¬ x 121 5 ≤ nI (cN C)) => absurd (by rw [c3]; exact Int32.le_refl _) c'⟩
                iterate 2 refine jw_u rfl ?_
                have := ihp b (some (.int (nI (cN C)))) ⟨fun hc p' q' h1 h2 h3 => hb.mp hc p' q' (by omega) h2 h3, fun hc => hb.mpr (fun p' q' h1 h2 h3 => hc p' q' (by omega) h2 h3)⟩
                rw [nI_s p] at this
                exact this
              · have stay : ∀ b', (b' = true ↔ atP (cN C) (sH S) (cSl C) i p (q + 1)) → jw (d + 3) kX7_most Q 31 [some (.ref 121), some (.int (nI B)), some (.int (nI i)), some (.int (nB b')), some (.int (nI p)), some (.int (nI q + nI 1))] [] x := by
                  intro b' hb'
                  have := ihq (by omega) b' hb'
                  rw [nI_s q] at this
                  exact this
                have yes : (b = true) → ((bt i p = 1 ∧ bt i q = 1) → nr (sH S p) (sH S q) (cSl C p + cSl C q) = false) → jw (d + 3) kX7_most Q 51 [some (.ref 121), some (.int (nI B)), some (.int (nI i)), some (.int (nB b)), some (.int (nI p)), some (.int (nI q))] [] x := by
                  intro h1 h2
                  iterate 5 refine jw_u rfl ?_
                  refine stay true ⟨fun _ p' q' g1 g2 g3 g4 g5 => ?_, fun _ => rfl⟩
                  by_cases e : p' = p ∧ q' = q
                  · obtain ⟨rfl, rfl⟩ := e
                    exact h2 ⟨g4, g5⟩
                  · exact hb.mp h1 p' q' (by omega) g2 g3 g4 g5
                have no : (¬ atP (cN C) (sH S) (cSl C) i p (q + 1)) → jw (d + 3) kX7_most Q 53 [some (.ref 121), some (.int (nI B)), some (.int (nI i)), some (.int (nB b)), some (.int (nI p)), some (.int (nI q))] [] x := by
                  intro h1
                  iterate 4 refine jw_u rfl ?_
                  exact stay false ⟨fun hc => (by cases hc), fun hc => absurd hc h1⟩
                iterate 3 refine jw_u rfl ?_
                refine jw_u rfl ⟨fun (c' : x 121 5 ≤ nI q) => absurd c' (by rw [c3]; exact nI_ge hq (by omega)), fun _ => ?_⟩
                refine jw_u rfl ?_
                cases hbb : b with
                | false =>
                  rw [hbb] at no hb
                  refine jw_u rfl ⟨fun _ => no (fun hc => by
                    cases hb.mpr (fun p' q' g1 g2 g3 => hc p' q' (by omega) g2 g3)), fun c => absurd n00 c⟩
                | true =>
                  rw [hbb] at no yes
                  have yes := yes rfl
                  refine jw_u rfl ⟨fun c => absurd c n10, fun _ => ?_⟩
                  iterate 3 refine jw_u rfl ?_
                  refine m_has (by omega) (by omega) (fun h1 => ?_) (fun h1 => ?_)
                  rotate_left
                  · refine jw_u rfl ⟨fun _ => yes (fun hc => by omega), fun c => absurd n00 c⟩
                  refine jw_u rfl ⟨fun c => absurd c n10, fun _ => ?_⟩
                  iterate 3 refine jw_u rfl ?_
                  refine m_has (by omega) (by omega) (fun h2 => ?_) (fun h2 => ?_)
                  rotate_left
                  · refine jw_u rfl ⟨fun _ => yes (fun hc => by omega), fun c => absurd n00 c⟩
                  refine jw_u rfl ⟨fun c => absurd c n10, fun _ => ?_⟩
                  iterate 5 refine jw_u rfl ?_
                  refine m_told2 (r := 0) (by decide) b3 s1 c5 w1 b5 hp hq (fun hw => ?_) (fun hw => ?_)
                  · refine jw_u rfl ⟨fun c => absurd c n10, fun _ => yes (fun _ => hw)⟩
                  · refine jw_u rfl ⟨fun _ => no (fun hc => ?_), fun c => absurd n00 c⟩
                    have := hc p q (by omega) hpq hq h1 h2
                    rw [hw] at this
                    cases this
            iterate 3 refine jw_u rfl ?_
            refine jw_u rfl ⟨fun (c' : x 121 5 ≤ nI p) => absurd c' (by rw [c3]; exact nI_ge hp (by omega)), fun _ => ?_⟩
            refine jw_u rfl ?_
            cases hbb : b with
            | false =>
              rw [hbb] at hb
              refine jw_u rfl ⟨fun _ => ?_, fun c => absurd n00 c⟩
              refine fin false _ g5 ⟨fun hc => (by cases hc), fun hc => hb.mpr (fun p' q' _ h1 h2 => atB_iff.mp hc.2 p' q' h1 h2)⟩
            | true =>
              rw [hbb] at hb
              refine jw_u rfl ⟨fun c => absurd c n10, fun _ => ?_⟩
              iterate 3 refine jw_u rfl ?_
              refine jtop (nI_add p 1) ?_
              refine jw_u rfl ?_
              refine lq (p + 1) hp (Nat.lt_succ_self _) true ⟨fun _ p' q' g1 g2 g3 => hb.mp rfl p' q' (by omega) g2 g3, fun _ => rfl⟩
        iterate 5 refine jw_u rfl ?_
        exact lp 0 (Nat.zero_le _) true g5 ⟨fun _ p' q' g1 => absurd g1 (by omega), fun _ => rfl⟩
  refine jo_i rfl rfl (Nat.le_of_ble_eq_true rfl) ?_
  iterate 4 refine jw_u rfl ?_
  exact loop 0 (Nat.zero_le _) none none none
end MH
end
section
/-! THE REFERENCE: the tree -/
def oA1 (o : Option (Nat × Nat)) : Int32 := match o with
  | none => jc (-1)
  | some a => nI a.1
def oA2 (o : Option (Nat × Nat)) : Int32 := match o with
  | none => jc (-1)
  | some a => nI a.2
theorem lI_lz {hd : Nat → Nat} {n : Nat} {o : Option (Nat × Nat)} (bh : ∀ k, k < n → hd k < 1000) (hv : ∀ a, o = some a → a.1 < n ∧ a.2 < n) : lI hd 1000000 o ≤ 1000000 := by
  cases o with
  | none => exact Nat.le_refl _
  | some a =>
    obtain ⟨h1, h2⟩ := hv a rfl
    have := ap_lt (bh _ h1) (bh _ h2)
    show ap _ _ ≤ 1000000
    omega
section MI
variable {d : Nat} {x : jM} {Q : Option Value → jM → Prop} {C : aC} {S : aS}
set_option maxHeartbeats 2000000 in
theorem m_treeS {n : Nat} {hd G : Nat → Nat} {i : Int32} {A t : Nat} (hn : x 121 5 = nI n) (h8 : n ≤ 8) (hh : ∀ k, k < n → x 122 (2 + k) = nI (hd k)) (bh : ∀ k, k < n → hd k < 1000) (hG : ∀ k, k < n → x 132 k = nI (G k)) (bG : ∀ k, k < n → G k < n)
    (h : ∀ g8 g9, jw (d + 3) kX7_tree Q 87 [some (.ref 121), some (.int i), some (.int (nI A)), some (.int (nI t)), some (.int (oA1 (nx G hd n))), some (.int (oA2 (nx G hd n))), some (.int (nI (lI hd 1000000 (nx G hd n)))), some (.int (nI n)), g8, g9] [] x) :
    ∀ g8 g9, jw (d + 3) kX7_tree Q 31 [some (.ref 121), some (.int i), some (.int (nI A)), some (.int (nI t)), some (.int (jc (-1))), some (.int (jc (-1))), some (.int (nI 1000000)), some (.int (nI 0)), g8, g9] [] x := by
  have loop : ∀ p, p ≤ n → ∀ o g8 g9, (∀ a, o = some a → a.1 < n ∧ a.2 < n) → (rsp n p).foldl (ts G hd) o = nx G hd n → jw (d + 3) kX7_tree Q 31 [some (.ref 121), some (.int i), some (.int (nI A)), some (.int (nI t)), some (.int (oA1 o)), some (.int (oA2 o)), some (.int (nI (lI hd 1000000 o))), some (.int (nI p)), g8, g9] [] x := by
    refine dn _ n (fun o g8 g9 hv hq => ?_) (fun p hp ih o g8 g9 hv hq => ?_)
    · rw [rsp_n (Nat.le_refl _)] at hq
      have hq : o = nx G hd n := hq
      subst hq
      iterate 3 refine jw_u rfl ?_
      refine jw_u rfl ⟨fun _ => h g8 g9, fun (c' : ¬ x 121 5 ≤ nI n) => absurd (by rw [hn]; exact Int32.le_refl _) c'⟩
    · have inner : ∀ q, q ≤ n → p < q → ∀ o g9, (∀ a, o = some a → a.1 < n ∧ a.2 < n) → (rwp n p q ++ rsp n (p + 1)).foldl (ts G hd) o = nx G hd n → jw (d + 3) kX7_tree Q 39 [some (.ref 121), some (.int i), some (.int (nI A)), some (.int (nI t)), some (.int (oA1 o)), some (.int (oA2 o)), some (.int (nI (lI hd 1000000 o))), some (.int (nI p)), some (.int (nI q)), g9] [] x := by
        refine dn _ n (fun _ o g9 hv hq => ?_) (fun q hq' ihq hpq o g9 hv hq => ?_)
        · rw [rwp_n (Nat.le_refl _), List.nil_append] at hq
          iterate 3 refine jw_u rfl ?_
          refine jw_u rfl ⟨fun _ => ?_, fun (c' : ¬ x 121 5 ≤ nI n) => absurd (by rw [hn]; exact Int32.le_refl _) c'⟩
          iterate 2 refine jw_u rfl ?_
          have := ih o (some (.int (nI n))) g9 hv hq
          rw [nI_s p] at this
          exact this
        · rw [rwp_c hq', List.cons_append, List.foldl_cons] at hq
          have b1 := ap_lt (bh p hp) (bh q hq')
          have b2 := lI_lz bh hv
          have b3 := bG p hp
          have b4 := bG q hq'
          have ihq := fun g9 => ihq (by omega) (ts G hd o (p, q)) g9 (ts_vl hv ⟨hp, hq'⟩) hq
          rw [nI_s q] at ihq
          iterate 3 refine jw_u rfl ?_
          refine jw_u rfl ⟨fun (c' : x 121 5 ≤ nI q) => absurd c' (by rw [hn]; exact nI_ge hq' (by omega)), fun _ => ?_⟩
          have no : ts G hd o (p, q) = o → jw (d + 3) kX7_tree Q 60 [some (.ref 121), some (.int i), some (.int (nI A)), some (.int (nI t)), some (.int (oA1 o)), some (.int (oA2 o)), some (.int (nI (lI hd 1000000 o))), some (.int (nI p)), some (.int (nI q)), g9] [] x := by
            intro e
            have ihq := ihq (some (.int (nI 0)))
            rw [e] at ihq
            iterate 3 refine jw_u rfl ?_
            refine jw_u rfl ⟨fun _ => ?_, fun c => absurd n00 c⟩
            iterate 3 refine jw_u rfl ?_
            refine jw_u rfl ⟨fun _ => ?_, fun c => absurd n00 c⟩
            iterate 3 refine jw_u rfl ?_
            refine jw_u rfl ⟨fun _ => ?_, fun c => absurd n00 c⟩
            iterate 4 refine jw_u rfl ?_
            exact ihq
          iterate 3 refine jw_u rfl ?_
          refine jw_u rfl (jaN (o := 132) (show p < 8 by omega) (by decide) (hG p hp) ?_)
          iterate 3 refine jw_u rfl ?_
          refine jw_u rfl (jaN (o := 132) (show q < 8 by omega) (by decide) (hG q hq') ?_)
          refine jw_u rfl ⟨fun (c' : nI (G p) = nI (G q)) => ?_, fun (c' : ¬ nI (G p) = nI (G q)) => ?_⟩
          · rw [nI_eq (by omega) (by omega)] at c'
            refine no ?_
            unfold ts
            cases o <;> simp [c']
          rw [nI_eq (by omega) (by omega)] at c'
          iterate 4 refine jw_u rfl ?_
          refine m_between h8 hh bh hp hq' ?_
          refine jw_u rfl ?_
          refine jw_u rfl ⟨fun (c2 : nI (lI hd 1000000 o) ≤ nI (ap (hd p) (hd q))) => ?_, fun (c2 : ¬ nI (lI hd 1000000 o) ≤ nI (ap (hd p) (hd q))) => ?_⟩
          · rw [nI_leI (by omega) (by omega)] at c2
            refine no ?_
            unfold ts
            cases o with
            | none => exact absurd (show 1000000 ≤ _ from c2) (by omega)
            | some a =>
              have c2 : ap (hd a.1) (hd a.2) ≤ ap (hd p) (hd q) := c2
              simp [c', Nat.not_lt.mpr c2]
          · rw [nI_leI (by omega) (by omega)] at c2
            have e : ts G hd o (p, q) = some (p, q) := by
              unfold ts
              cases o with
              | none => simp [c']
              | some a =>
                have c2 : ap (hd p) (hd q) < ap (hd a.1) (hd a.2) := Nat.not_le.mp c2
                simp [c', c2]
            have ihq := ihq (some (.int (nI 1)))
            rw [e] at ihq
            iterate 4 refine jw_u rfl ?_
            refine jw_u rfl ⟨fun c => absurd c n10, fun _ => ?_⟩
            iterate 4 refine jw_u rfl ?_
            refine jw_u rfl ⟨fun c => absurd c n10, fun _ => ?_⟩
            iterate 4 refine jw_u rfl ?_
            refine jw_u rfl ⟨fun c => absurd c n10, fun _ => ?_⟩
            iterate 4 refine jw_u rfl ?_
            refine m_between h8 hh bh hp hq' ?_
            iterate 4 refine jw_u rfl ?_
            exact ihq
      rw [rsp_c hp] at hq
      iterate 3 refine jw_u rfl ?_
      refine jw_u rfl ⟨fun (c' : x 121 5 ≤ nI p) => absurd c' (by rw [hn]; exact nI_ge hp (by omega)), fun _ => ?_⟩
      iterate 3 refine jw_u rfl ?_
      refine jtop (nI_add p 1) ?_
      refine jw_u rfl ?_
      exact inner (p + 1) hp (Nat.lt_succ_self _) o g9 hv hq
  intro g8 g9
  exact loop 0 (Nat.zero_le _) none g8 g9 (fun a h => by cases h) rfl
set_option maxHeartbeats 2000000 in
theorem m_tree {i : Int32} (hC : mC x C) (hS : mS x 0 (cN C) S) (wc : wC C) (ws : wS (cN C) S) (h : ∀ x', (∀ k, k ≠ 131 → k ≠ 132 → x' k = x k) → Q (some (.int (fTree C S i))) x') : jo (d + 4) 130 [.ref 121, .int i] x Q := by
  have b3 := wc.2.2.1
  have c3 := hC.2.2.1
  have s1 := hS.1
  have w1 := ws.1
  have main : ∀ t, t ≤ cN C - 1 → ∀ x1 g4 g5 g6 g7 g8 g9, (∀ k, k ≠ 131 → k ≠ 132 → x1 k = x k) → (∀ k, k < cN C → x1 132 k = nI (tG (sH S) (cN C) t k)) → (∀ k, k < t → x1 131 k = cI (nx (tG (sH S) (cN C) k) (sH S) (cN C))) → jw (d + 3) kX7_tree Q 17 [some (.ref 121), some (.int i), some (.int (nI (tA (sH S) (cN C) t))), some (.int (nI t)), g4, g5, g6, g7, g8, g9] [] x1 := by
    refine dn _ (cN C - 1) (fun x1 g4 g5 g6 g7 g8 g9 e1 e2 e3 => ?_) (fun t ht ih x1 g4 g5 g6 g7 g8 g9 e1 e2 e3 => ?_)
    · have e5 : x1 121 5 = nI (cN C) := by rw [e1 121 (by decide) (by decide)]; exact c3
      iterate 3 refine jw_u rfl ?_
      refine jtop e5 ?_
      iterate 2 refine jw_u rfl ?_
      refine jw_u rfl ⟨fun _ => ?_, fun (c' : ¬ nI (cN C) - nI 1 ≤ nI (cN C - 1)) => absurd ((sub1_le b3 (by omega)).mpr (by omega)) c'⟩
      iterate 2 refine jw_u rfl ?_
      have h := h x1 e1
      unfold fTree at h
      refine jw_u rfl ⟨fun (c' : ¬ i = jc (-1)) => ?_, fun (c' : i = jc (-1)) => ?_⟩
      · rw [jm1] at c'
        rw [if_neg c'] at h
        iterate 8 refine jw_u rfl ?_
        refine m_in (a := 0) (b := ((cN C - 1 : Nat) : Int) - 1) (by decide) (by rw [Int32.toInt_toInt64]; exact pk_sub_toInt (by omega) (by decide)) (fun hi => ?_) (fun hi => ?_)
        · have hi2 := (ri (p := i) (n := cN C - 1) (by omega)).mpr hi
          rw [if_pos hi2] at h
          obtain ⟨j, hj, rfl⟩ := ilt (by omega) hi2
          rw [nI_clamp (by omega)] at h
          refine jw_u rfl ⟨fun c => absurd c n10, fun _ => ?_⟩
          iterate 3 refine jw_u rfl ?_
          refine jw_u rfl (jaN (o := 131) (show j < 8 by omega) (by decide) (e3 j hj) ?_)
          iterate 2 refine jw_u rfl ?_
          exact ⟨fun h => (by cases h), h⟩
        · rw [if_neg (fun hc => hi ((ri (p := i) (n := cN C - 1) (by omega)).mp hc))] at h
          refine jw_u rfl ⟨fun _ => ?_, fun c => absurd n00 c⟩
          iterate 2 refine jw_u rfl ?_
          exact ⟨fun h => (by cases h), jret jm1 h⟩
      · rw [jm1] at c'
        rw [if_pos c'] at h
        iterate 3 refine jw_u rfl ?_
        exact ⟨fun h => (by cases h), h⟩
    · have e5 : x1 121 5 = nI (cN C) := by rw [e1 121 (by decide) (by decide)]; exact c3
      have e4 : ∀ k, k < cN C → x1 122 (2 + k) = nI (sH S k) := fun k hk => by rw [e1 122 (by decide) (by decide)]; exact s1 k hk
      obtain ⟨a, ha⟩ := tG_next (sH S) (n := cN C) (t := t) (by omega)
      obtain ⟨q1, q2, q3⟩ := nx_some ha
      have q4 := tA_le w1 t
      have q5 := ap_lt (w1 a.1 (by omega)) (w1 a.2 q2)
      have bG : ∀ k, k < cN C → tG (sH S) (cN C) t k < cN C := fun k hk => tG_lt (sH S) (by omega) hk
      have etG : tG (sH S) (cN C) (t + 1) = jnG (tG (sH S) (cN C) t) a := by rw [tG, ha]
      have etA : tA (sH S) (cN C) (t + 1) = tA (sH S) (cN C) t + ap (sH S a.1) (sH S a.2) := by rw [tA, ha]; rfl
      rw [etG, etA, nI_s t] at ih
      iterate 3 refine jw_u rfl ?_
      refine jtop e5 ?_
      iterate 2 refine jw_u rfl ?_
      refine jw_u rfl ⟨fun (c' : nI (cN C) - nI 1 ≤ nI t) => absurd ((sub1_le b3 (by omega)).mp c') (by omega), fun _ => ?_⟩
      iterate 8 refine jw_u rfl ?_
      refine m_treeS (n := cN C) (hd := sH S) (G := tG (sH S) (cN C) t) e5 b3 e4 w1 e2 bG (fun g8 g9 => ?_) g8 g9
      rw [ha]
      generalize tG (sH S) (cN C) t = G at e2 bG q3 ih ⊢
      generalize tA (sH S) (cN C) t = A at q4 ih ⊢
      have hb1 := bG _ (show a.1 < cN C by omega)
      have hb2 := bG _ q2
      iterate 3 refine jw_u rfl ?_
      refine jw_u rfl (jaN (o := 132) (j := a.2) (show a.2 < 8 by omega) (by decide) (e2 a.2 q2) ?_)
      iterate 3 refine jw_u rfl ?_
      have join : ∀ p, p ≤ cN C → ∀ x2, (∀ k, k ≠ 132 → x2 k = x1 k) → (∀ k, k < cN C → x2 132 k = nI (if k < p then jnG G a k else G k)) → jw (d + 3) kX7_tree Q 94 [some (.ref 121), some (.int i), some (.int (nI A)), some (.int (nI t)), some (.int (nI a.1)), some (.int (nI a.2)), some (.int (nI (ap (sH S a.1) (sH S a.2)))), some (.int (nI (G a.2))), some (.int (nI p)), g9] [] x2 := by
        refine dn _ (cN C) (fun x2 f1 f2 => ?_) (fun p hp ihp x2 f1 f2 => ?_)
        · have e6 : x2 121 5 = nI (cN C) := by rw [f1 121 (by decide)]; exact e5
          iterate 3 refine jw_u rfl ?_
          refine jw_u rfl ⟨fun _ => ?_, fun (c' : ¬ x2 121 5 ≤ nI (cN C)) => absurd (by rw [e6]; exact Int32.le_refl _) c'⟩
          iterate 5 refine jw_u rfl ?_
          refine jw_u rfl ?_
          refine jtop (pk_mul 10 a.1) ?_
          iterate 2 refine jw_u rfl ?_
          refine jtop (nI_add _ _) ?_
          refine jw_u rfl (jsN (o := 131) (show t < 8 by omega) (by decide) ?_)
          iterate 3 refine jw_u rfl ?_
          refine jtop (nI_add _ _) ?_
          iterate 3 refine jw_u rfl ?_
          exact ih _ _ _ _ _ _ _ (fun k h1 h2 => by rw [ju_oo h1, f1 k h2]; exact e1 k h1 h2) (fun k hk => by rw [ju_o (by decide), f2 k hk, if_pos hk]) (fun k hk => by
            by_cases e : k = t
            · subst e
              rw [ju_s, ha]
              rfl
            · rw [ju_k e, f1 131 (by decide)]
              exact e3 k (by omega))
        · have e6 : x2 121 5 = nI (cN C) := by rw [f1 121 (by decide)]; exact e5
          have ep : x2 132 p = nI (G p) := by rw [f2 p hp, if_neg (Nat.lt_irrefl _)]
          have ea : x2 132 a.1 = nI (G a.1) := by
            rw [f2 a.1 (by omega)]
            split
            · unfold jnG
              rw [if_neg q3]
            · rfl
          have b4 := bG p hp
          have next : ∀ v, v = nI (jnG G a p) → jw (d + 3) kX7_tree Q 116 [some (.ref 121), some (.int i), some (.int (nI A)), some (.int (nI t)), some (.int (nI a.1)), some (.int (nI a.2)), some (.int (nI (ap (sH S a.1) (sH S a.2)))), some (.int (nI (G a.2))), some (.int (nI p)), g9] [.int v, .int (nI p), .ref 132] x2 := by
            intro v hv
            refine jw_u rfl (jsN (o := 132) (show p < 8 by omega) (by decide) ?_)
            iterate 2 refine jw_u rfl ?_
            have := ihp (ju x2 132 p v) (fun k hk => by rw [ju_oo hk]; exact f1 k hk) (fun k hk => by
              by_cases e : k = p
              · subst e
                rw [ju_s, if_pos (Nat.lt_succ_self _)]
                exact hv
              · rw [ju_k e, f2 k hk]
                by_cases h9 : k < p
                · rw [if_pos h9, if_pos (by omega)]
                · rw [if_neg h9, if_neg (by omega)])
            rw [nI_s p] at this
            exact this
          iterate 3 refine jw_u rfl ?_
          refine jw_u rfl ⟨fun (c' : x2 121 5 ≤ nI p) => absurd c' (by rw [e6]; exact nI_ge hp (by omega)), fun _ => ?_⟩
          iterate 6 refine jw_u rfl ?_
          refine jw_u rfl (jaN (o := 132) (show p < 8 by omega) (by decide) ep ?_)
          refine jw_u rfl ?_
          refine jw_u rfl ⟨fun (c' : ¬ nI (G p) = nI (G a.2)) => ?_, fun (c' : nI (G p) = nI (G a.2)) => ?_⟩
          · rw [nI_eq (by omega) (by omega)] at c'
            iterate 3 refine jw_u rfl ?_
            refine jw_u rfl (jaN (o := 132) (show p < 8 by omega) (by decide) ep ?_)
            exact next _ (by unfold jnG; rw [if_neg c'])
          · rw [nI_eq (by omega) (by omega)] at c'
            iterate 3 refine jw_u rfl ?_
            refine jw_u rfl (jaN (o := 132) (show a.1 < 8 by omega) (by decide) ea ?_)
            refine jw_u rfl ?_
            exact next _ (by unfold jnG; rw [if_pos c'])
      exact join 0 (Nat.zero_le _) x1 (fun _ _ => rfl) (fun k hk => by rw [if_neg (Nat.not_lt_zero _)]; exact e2 k hk)
  have first : ∀ p, p ≤ cN C → ∀ x1, (∀ k, k ≠ 131 → k ≠ 132 → x1 k = x k) → (∀ k, k < p → x1 132 k = nI k) → jw (d + 3) kX7_tree Q 6 [some (.ref 121), some (.int i), some (.int (nI 0)), some (.int (nI 0)), some (.int (nI p)), none, none, none, none, none] [] x1 := by
    refine dn _ (cN C) (fun x1 e1 e2 => ?_) (fun p hp ih x1 e1 e2 => ?_)
    · have e5 : x1 121 5 = nI (cN C) := by rw [e1 121 (by decide) (by decide)]; exact c3
      iterate 3 refine jw_u rfl ?_
      refine jw_u rfl ⟨fun _ => ?_, fun (c' : ¬ x1 121 5 ≤ nI (cN C)) => absurd (by rw [e5]; exact Int32.le_refl _) c'⟩
      exact main 0 (Nat.zero_le _) x1 _ _ _ _ _ _ e1 e2 (fun k hk => absurd hk (Nat.not_lt_zero _))
    · have e5 : x1 121 5 = nI (cN C) := by rw [e1 121 (by decide) (by decide)]; exact c3
      iterate 3 refine jw_u rfl ?_
      refine jw_u rfl ⟨fun (c' : x1 121 5 ≤ nI p) => absurd c' (by rw [e5]; exact nI_ge hp (by omega)), fun _ => ?_⟩
      iterate 4 refine jw_u rfl ?_
      refine jw_u rfl (jsN (o := 132) (show p < 8 by omega) (by decide) ?_)
      iterate 2 refine jw_u rfl ?_
      have := ih (ju x1 132 p (nI p)) (fun k h1 h2 => by rw [ju_oo h2]; exact e1 k h1 h2) (fun k hk => by
        by_cases e : k = p
        · subst e; exact ju_s _ _ _ _
        · rw [ju_k e]; exact e2 k (by omega))
      rw [nI_s p] at this
      exact this
  refine jo_i rfl rfl (Nat.le_of_ble_eq_true rfl) ?_
  iterate 6 refine jw_u rfl ?_
  exact first 0 (Nat.zero_le _) x (fun _ _ _ => rfl) (fun k hk => absurd hk (Nat.not_lt_zero _))
end MI
end
section
/-! THE REFERENCE: the whole relation; what is minded -/
def mH (x : jM) (n : Nat) (hs : List aS) : Prop := x 121 2 = nI hs.length ∧ hs.length ≤ 20 ∧ ∀ k S, hs[k]? = some S → mS x (108 + 27 * (hs.length - 1 - k)) n S
def mI (x : jM) (n : Nat) (im : Nat → Option (aS × Nat)) : Prop := ∀ i, i < 2 → (im i = none → x 123 i = nI 0) ∧ (∀ S s, im i = some (S, s) → x 123 i = nI 1 ∧ mS x (54 + 27 * i) n S ∧ x 122 (54 + 27 * i + 26) = nI s)
def mN (x : jM) (u : aN) (v : aB) : Prop := x 121 27 = nI u.1 ∧ (∀ k, k < u.1 → x 133 k = nI (u.2 k)) ∧ x 121 29 = nI v.1 ∧ (∀ k, k < v.1 → x 134 k = nI (v.2.1 k)) ∧ (∀ k, k < v.1 → x 135 k = nI (v.2.2 k))
def mT (x : jM) (u : aN) : Prop := x 121 11 = nI u.1 ∧ (∀ k, k < u.1 → x 127 k = nI (u.2 k))
def RM (z : aX) (x : jM) : Prop := mC x (gC z) ∧ mS x 0 (cN (gC z)) (gS z) ∧ mH x (cN (gC z)) (gH z) ∧ mI x (cN (gC z)) (gI z) ∧ mN x (gN z) (gB z) ∧ x 122 26 = nI (gD z) ∧ x 121 16 = gF z ∧ mT x (gT z)
theorem mC_f {x x' : jM} {C : aC} (h : ∀ k, k = 3 ∨ k = 4 ∨ k = 5 ∨ k = 8 → x' 121 k = x 121 k) (h2 : ∀ i, 124 ≤ i → i ≤ 126 → x' i = x i) (hC : mC x C) : mC x' C := by
  obtain ⟨h1, h2', h3, h4, h5, h6, h7⟩ := hC
  refine ⟨by rw [h 3 (by omega)]; exact h1, by rw [h 4 (by omega)]; exact h2', by rw [h 5 (by omega)]; exact h3, by rw [h 8 (by omega)]; exact h4, fun k hk => ?_, fun k hk => ?_, fun k hk => ?_⟩
  · rw [h2 124 (by omega) (by omega)]; exact h5 k hk
  · rw [h2 125 (by omega) (by omega)]; exact h6 k hk
  · rw [h2 126 (by omega) (by omega)]; exact h7 k hk
theorem mS_f {x x' : jM} {r n : Nat} {S : aS} (hn : n ≤ 8) (hp : sP S ≤ 8) (h : ∀ j, r ≤ j → j < r + 26 → x' 122 j = x 122 j) (hS : mS x r n S) : mS x' r n S := by
  obtain ⟨h1, h2, h3, h4, h5⟩ := hS
  refine ⟨fun k hk => ?_, ?_, fun k hk => ?_, fun k hk => ?_, ?_⟩
  · rw [h _ (by omega) (by omega)]; exact h1 k hk
  · rw [h _ (by omega) (by omega)]; exact h2
  · rw [h _ (by omega) (by omega)]; exact h3 k hk
  · rw [h _ (by omega) (by omega)]; exact h4 k hk
  · rw [h _ (by omega) (by omega)]; exact h5
theorem mS_cp {x x' : jM} {a b n : Nat} {S : aS} (hn : n ≤ 8) (hp : sP S ≤ 8) (h : ∀ k, k < 26 → x' 122 (b + k) = x 122 (a + k)) (hS : mS x a n S) : mS x' b n S := by
  obtain ⟨h1, h2, h3, h4, h5⟩ := hS
  refine ⟨fun k hk => ?_, ?_, fun k hk => ?_, fun k hk => ?_, ?_⟩
  · rw [Nat.add_assoc, h _ (by omega), ← Nat.add_assoc]; exact h1 k hk
  · rw [h _ (by omega)]; exact h2
  · rw [Nat.add_assoc, h _ (by omega), ← Nat.add_assoc]; exact h3 k hk
  · rw [Nat.add_assoc, h _ (by omega), ← Nat.add_assoc]; exact h4 k hk
  · have := h 0 (by decide)
    exact this.trans h5
theorem mH_f {x x' : jM} {n : Nat} {hs : List aS} (hn : n ≤ 8) (hw : ∀ S ∈ hs, wS n S) (h1 : x' 121 2 = x 121 2) (h : ∀ j, 108 ≤ j → x' 122 j = x 122 j) (hh : mH x n hs) : mH x' n hs := by
  obtain ⟨g1, g2, g3⟩ := hh
  exact ⟨by rw [h1]; exact g1, g2, fun k S hk => mS_f hn (hw S (List.mem_of_getElem? hk)).2.1 (fun j q1 q2 => h j (by omega)) (g3 k S hk)⟩
theorem mI_f {x x' : jM} {n : Nat} {im : Nat → Option (aS × Nat)} (hn : n ≤ 8) (hw : ∀ i S s, im i = some (S, s) → wS n S ∧ s < 2147483648) (h1 : x' 123 = x 123) (h : ∀ j, 54 ≤ j → j < 108 → x' 122 j = x 122 j) (hh : mI x n im) : mI x' n im := by
  intro i hi
  obtain ⟨g1, g2⟩ := hh i hi
  refine ⟨fun e => by rw [h1]; exact g1 e, fun S s e => ?_⟩
  obtain ⟨q1, q2, q3⟩ := g2 S s e
  exact ⟨by rw [h1]; exact q1, mS_f hn (hw i S s e).1.2.1 (fun j a b => h j (by omega) (by omega)) q2, by rw [h _ (by omega) (by omega)]; exact q3⟩
theorem mN_f {x x' : jM} {u : aN} {v : aB} (h : ∀ k, k = 27 ∨ k = 29 → x' 121 k = x 121 k) (h2 : ∀ i, 133 ≤ i → i ≤ 135 → x' i = x i) (hh : mN x u v) : mN x' u v := by
  obtain ⟨h1, h2', h3, h4, h5⟩ := hh
  refine ⟨by rw [h 27 (by omega)]; exact h1, fun k hk => ?_, by rw [h 29 (by omega)]; exact h3, fun k hk => ?_, fun k hk => ?_⟩
  · rw [h2 133 (by omega) (by omega)]; exact h2' k hk
  · rw [h2 134 (by omega) (by omega)]; exact h4 k hk
  · rw [h2 135 (by omega) (by omega)]; exact h5 k hk
theorem mT_f {x x' : jM} {u : aN} (h : x' 121 11 = x 121 11) (h2 : x' 127 = x 127) (hh : mT x u) : mT x' u := ⟨by rw [h]; exact hh.1, fun k hk => by rw [h2]; exact hh.2 k hk⟩
/-- what the state doesn't hang on may change -/
theorem RM_f {x x' : jM} {z : aX} (hw : wX z) (h : ∀ k, k < 12 ∨ k = 16 ∨ 26 < k → x' 121 k = x 121 k) (h1 : ∀ j, j < 27 ∨ 53 < j → x' 122 j = x 122 j) (h2 : ∀ i, 123 ≤ i → i < 128 ∨ 132 < i → x' i = x i) (hh : RM z x) : RM z x' := by
  obtain ⟨r1, r2, r3, r4, r5, r6, r7, r8⟩ := hh
  obtain ⟨w1, w2, w3, w4, -⟩ := hw
  have b3 := w1.2.2.1
  refine ⟨mC_f (fun k hk => h k (by omega)) (fun i g1 g2 => h2 i (by omega) (by omega)) r1, mS_f b3 w2.2.1 (fun j g1 g2 => h1 j (by omega)) r2, mH_f b3 w3.2 (h 2 (by omega)) (fun j g1 => h1 j (by omega)) r3, mI_f b3 w4 (h2 123 (by omega) (by omega)) (fun j g1 g2 => h1 j (by omega)) r4, mN_f (fun k hk => h k (by omega)) (fun i g1 g2 => h2 i (by omega) (by omega)) r5, ?_, ?_, mT_f (h 11 (by omega)) (h2 127 (by omega) (by omega)) r8⟩
  · rw [h1 26 (by omega)]; exact r6
  · rw [h 16 (by omega)]; exact r7
theorem RM_n {x x' : jM} {z : aX} {S : aS} (hw : wX z) (h : ∀ i, i ≠ 122 → x' i = x i) (h1 : ∀ j, 26 ≤ j → x' 122 j = x 122 j) (hS : mS x' 0 (cN (gC z)) S) (hh : RM z x) : RM (zNow z S) x' := by
  obtain ⟨r1, -, r3, r4, r5, r6, r7, r8⟩ := hh
  obtain ⟨w1, w2, w3, w4, -⟩ := hw
  have b3 := w1.2.2.1
  have e := h 121 (by decide)
  refine ⟨mC_f (fun k hk => by rw [e]) (fun i g1 g2 => h i (by omega)) r1, hS, mH_f b3 w3.2 (by rw [e]) (fun j g1 => h1 j (by omega)) r3, mI_f b3 w4 (h 123 (by decide)) (fun j g1 g2 => h1 j (by omega)) r4, mN_f (fun k hk => by rw [e]) (fun i g1 g2 => h i (by omega)) r5, ?_, ?_, mT_f (by rw [e]) (h 127 (by decide)) r8⟩
  · rw [h1 26 (by omega)]; exact r6
  · rw [e]; exact r7
theorem RM_h {x x' : jM} {z : aX} {hs : List aS} (hw : wX z) (h : ∀ i, i ≠ 121 → i ≠ 122 → x' i = x i) (h0 : ∀ k, k ≠ 2 → x' 121 k = x 121 k) (h1 : ∀ j, j < 108 → x' 122 j = x 122 j) (hH : mH x' (cN (gC z)) hs) (hh : RM z x) : RM (gC z, gS z, hs, gI z, gN z, gB z, gD z, gF z, gT z) x' := by
  obtain ⟨r1, r2, -, r4, r5, r6, r7, r8⟩ := hh
  obtain ⟨w1, w2, w3, w4, -⟩ := hw
  have b3 := w1.2.2.1
  refine ⟨mC_f (fun k hk => h0 k (by omega)) (fun i g1 g2 => h i (by omega) (by omega)) r1, mS_f b3 w2.2.1 (fun j g1 g2 => h1 j (by omega)) r2, hH, mI_f b3 w4 (h 123 (by decide) (by decide)) (fun j g1 g2 => h1 j (by omega)) r4, mN_f (fun k hk => h0 k (by omega)) (fun i g1 g2 => h i (by omega) (by omega)) r5, ?_, ?_, mT_f (h0 11 (by decide)) (h 127 (by decide) (by decide)) r8⟩
  · rw [h1 26 (by omega)]; exact r6
  · rw [h0 16 (by decide)]; exact r7
section MJ
variable {d n : Nat} {x : jM} {Q : Option Value → jM → Prop} {S : aS} {hs : List aS} {z : aX}
theorem m_mindsT (hn : n ≤ 8) (hl : hs.length < 20) (hH : mH x n hs) (hw : ∀ S ∈ hs, wS n S) (hS : mS x 0 n S) (ws : wS n S) (g : Option Value) (h : ∀ x', (∀ i, i ≠ 121 → i ≠ 122 → x' i = x i) → (∀ k, k ≠ 2 → x' 121 k = x 121 k) → (∀ j, j < 108 → x' 122 j = x 122 j) → mH x' n (S :: hs) → Q none x') : jw (d + 1) kX7_minds Q 31 [some (.ref 121), g] [] x := by
  obtain ⟨g1, g2, g3⟩ := hH
  iterate 6 refine jw_u rfl ?_
  refine jtop g1 ?_
  refine jw_u rfl ?_
  refine jtop (pk_mul 27 hs.length) ?_
  refine jw_u rfl ?_
  refine jtop (nI_add 108 _) ?_
  refine jw_u rfl ?_
  refine m_copy (a := 0) (b := 108 + 27 * hs.length) (by decide) (by omega) (Or.inl (by omega)) (fun x1 f1 f2 f3 => ?_)
  have e2 : x1 121 2 = nI hs.length := by rw [f1 121 (by decide)]; exact g1
  iterate 3 refine jw_u rfl ?_
  refine jtop e2 ?_
  iterate 2 refine jw_u rfl ?_
  refine jtop (nI_add hs.length 1) ?_
  refine jw_u rfl ⟨fun h => (by cases h), ?_⟩
  refine jw_u rfl ?_
  have fw : ∀ j, ju x1 121 2 (nI (hs.length + 1)) 122 j = x1 122 j := fun j => ju_o (by decide)
  refine h _ (fun i h1 h2 => by rw [ju_oo h1, f1 i h2]) (fun k hk => by rw [ju_k hk, f1 121 (by decide)]) (fun j hj => by rw [fw, f3 j (by omega)]) ⟨ju_s _ _ _ _, by rw [List.length_cons]; omega, fun k S' hk => ?_⟩
  rw [List.length_cons]
  match k, hk with
  | 0, hk =>
    cases hk
    rw [show hs.length + 1 - 1 - 0 = hs.length by omega]
    refine mS_cp (x := x) (a := 0) hn ws.2.1 (fun k hk => ?_) hS
    rw [fw, f2 k (by omega)]
  | k + 1, hk =>
    have hk : hs[k]? = some S' := by simpa using hk
    have hkl := (List.getElem?_eq_some_iff.mp hk).1
    rw [show hs.length + 1 - 1 - (k + 1) = hs.length - 1 - k by omega]
    refine mS_f hn (hw S' (List.mem_of_getElem? hk)).2.1 (fun j q1 q2 => ?_) (g3 k S' hk)
    rw [fw, f3 j (by omega)]
theorem m_minds (hn : n ≤ 8) (hH : mH x n hs) (hw : ∀ S ∈ hs, wS n S) (hS : mS x 0 n S) (ws : wS n S) (h : ∀ x', (∀ i, i ≠ 121 → i ≠ 122 → x' i = x i) → (∀ k, k ≠ 2 → x' 121 k = x 121 k) → (∀ j, j < 108 → x' 122 j = x 122 j) → mH x' n ((S :: hs).take 20) → Q none x') : jo (d + 2) 114 [.ref 121] x Q := by
  obtain ⟨g1, g2, g3⟩ := id hH
  refine jo_i rfl rfl (Nat.le_of_ble_eq_true rfl) ?_
  iterate 2 refine jw_u rfl ?_
  refine jtop g1 ?_
  refine jw_u rfl ?_
  refine jw_u rfl ⟨fun (c : ¬ nI hs.length = nI 20) => ?_, fun (c : nI hs.length = nI 20) => ?_⟩
  · rw [nI_eq (by omega) (by decide)] at c
    refine m_mindsT hn (by omega) hH hw hS ws none (fun x' h1 h2 h3 h4 => h x' h1 h2 h3 ?_)
    rw [List.take_of_length_le (by rw [List.length_cons]; omega)]
    exact h4
  · rw [nI_eq (by omega) (by decide)] at c
    have loop : ∀ i, i ≤ 513 → ∀ y, (∀ i, i ≠ 122 → y i = x i) → (∀ k, k < i → y 122 (108 + k) = x 122 (135 + k)) → (∀ j, j < 108 ∨ 108 + i ≤ j → y 122 j = x 122 j) → jw (d + 1) kX7_minds Q 6 [some (.ref 121), some (.int (nI i))] [] y := by
      refine dn _ 513 (fun y y1 y2 y3 => ?_) (fun i hi ih y y1 y2 y3 => ?_)
      · iterate 2 refine jw_u rfl ?_
        refine jw_u rfl ⟨fun _ => ?_, fun (c' : ¬ nI 513 ≤ nI 513) => absurd (Int32.le_refl _) c'⟩
        iterate 3 refine jw_u rfl ?_
        refine jtop (v' := nI 20) (by rw [y1 121 (by decide), g1, c]) ?_
        iterate 2 refine jw_u rfl ?_
        refine jtop (v' := nI 19) (by decide) ?_
        refine jw_u rfl ⟨fun h => (by cases h), ?_⟩
        have lt : (hs.take 19).length = 19 := by rw [List.length_take]; omega
        have fw : ∀ j, ju y 121 2 (nI 19) 122 j = y 122 j := fun j => ju_o (by decide)
        refine m_mindsT (hs := hs.take 19) (S := S) hn (by omega) ⟨by rw [lt]; exact ju_s _ _ _ _, by omega, fun k S' hk => ?_⟩ (fun S' hS' => hw S' (List.mem_of_mem_take hS')) (mS_f hn ws.2.1 (fun j q1 q2 => by rw [fw, y3 j (by omega)]) hS) ws _ (fun x' h1 h2 h3 h4 => h x' (fun i q1 q2 => by rw [h1 i q1 q2, ju_oo q1, y1 i q2]) (fun k hk => by rw [h2 k hk, ju_k hk, y1 121 (by decide)]) (fun j hj => by rw [h3 j hj, fw, y3 j (by omega)]) ?_)
        · have hk19 : k < 19 := by
            have := (List.getElem?_eq_some_iff.mp hk).1
            omega
          rw [List.getElem?_take, if_pos hk19] at hk
          have := g3 k S' hk
          rw [c] at this
          rw [lt]
          refine mS_cp (x := x) (a := 108 + 27 * (20 - 1 - k)) hn (hw S' (List.mem_of_getElem? hk)).2.1 (fun m hm => ?_) this
          rw [fw, show 108 + 27 * (19 - 1 - k) + m = 108 + (27 * (19 - 1 - k) + m) by omega, y2 _ (by omega)]
          congr 1
          omega
        · rw [List.take_succ_cons]
          exact h4
      · iterate 2 refine jw_u rfl ?_
        refine jw_u rfl ⟨fun (c' : nI 513 ≤ nI i) => absurd c' (nI_ge hi (by decide)), fun _ => ?_⟩
        iterate 5 refine jw_u rfl ?_
        refine jtop (nI_add 108 i) ?_
        iterate 5 refine jw_u rfl ?_
        refine jtop (nI_add 108 i) ?_
        iterate 2 refine jw_u rfl ?_
        refine jtop (nI_add (108 + i) 27) ?_
        refine jw_u rfl (jaN (o := 122) (show 108 + i + 27 < 648 by omega) (by decide) (y3 (108 + i + 27) (by omega)) ?_)
        refine jw_u rfl (jsN (o := 122) (show 108 + i < 648 by omega) (by decide) ?_)
        iterate 2 refine jw_u rfl ?_
        have := ih (ju y 122 (108 + i) (x 122 (108 + i + 27))) (fun k hk => by rw [ju_oo hk]; exact y1 k hk) (fun k hk => by
          by_cases e : k = i
          · subst e
            rw [ju_s]
            congr 1
            omega
          · rw [ju_k (by omega)]; exact y2 k (by omega)) (fun j hj => by rw [ju_k (by omega)]; exact y3 j (by omega))
        rw [nI_s i] at this
        exact this
    iterate 2 refine jw_u rfl ?_
    exact loop 0 (Nat.zero_le _) x (fun _ _ => rfl) (fun k hk => absurd hk (Nat.not_lt_zero _)) (fun _ _ => rfl)
end MJ
end
section
/-- what is left: the law's loop, over the step predicates alone -/
theorem pure_law (L : Nat) (xs : Nat → Int32) (hL : L ≤ 192) : ∃ d n, jwpL (jOl 136 jK d) 136 jK L xs kL (fun r _ => r = some (.int 1)) n 0 [some (.ref 200), some (.ref 0), some (.ref 121), none] [] jx0 := by
  sorry
theorem whole_start {p : Program} {e : Env} {s : State} {m : MethodId} {below : List Frame} {meth : Method} {c : Code} (l : Launch) {b L : Nat} {xs : Nat → Int32} (hL : L ≤ 192) (C0 : lw_At p s m meth c b L xs) : W p l e room_1 s m #[Value.ref b] below meth c s.heap [] 0 0 (lw_Z below #[Value.ref b] s) (entryFrame m ([Value.ref b] : List Value).toArray 4) := by
  obtain ⟨d, hp⟩ := pure_law L xs hL
  exact law_start l C0 d hp
set_option maxHeartbeats 4000000 in
theorem lw_walk (l : Launch) (b : Addr) (xs : List Int32) : MetFree l x (headSpec (Jvm.Cond.code x code maxLocals ret :: tables_1) room_1) (lw_P b xs) (fun _ _ _ _ _ => True) lw_Q := by
  refine MetFree.of_bodyS (code := code) (maxLocals := maxLocals) (ret := ret) (by decide) ?_ ?_
  · intro args s m h hn
    obtain ⟨meth, c, h1, h2, h3, h4, h5, h6, -, -⟩ := Cond.code_spec hn (atoms_spec (ws := Jvm.Cond.code x code maxLocals ret :: tables_1) h _ List.mem_cons_self)
    exact ⟨meth, c, h1, h2, h3, h4, h5, h6⟩
  · intro p e s m args below meth c s₁ B hml0 hP _
    obtain ⟨rfl, hx, hbd, hgv⟩ := hP
    obtain ⟨scr, harrAt, hlist, hof, hsmall⟩ := hx
    obtain ⟨hcb, hkn, -, -⟩ := State.arrayAt?_spec harrAt
    have hown : s.vm.findClass R_law = some m.cls := findClass_of_methodNamed B.named
    have hts0 : ∀ c ∈ (Jvm.Cond.code x code maxLocals ret :: tables_1), c.before #[Value.ref b] s = true := atoms_spec (ws := Jvm.Cond.code x code maxLocals ret :: tables_1) B.pre
    have hts : ∀ w ∈ lw_tbl, w.before #[Value.ref b] s = true := k2_hts_sels lw_privs (fun w hw => hts0 w (List.mem_cons_of_mem _ hw)) lw_privs_ok
    have hml : c.maxLocals = 4 := B.maxLocals_eq (hts0 _ List.mem_cons_self)
    have X₀ : Stand p l e room_1 s m #[Value.ref b] below meth c s₁ [] 0 0 := Stand.of_body B
    have hh0 : s₁.heap = s.heap := by rw [B.state]; rfl
    have hsz : scr.slots.size = xs.length := by rw [← Array.length_toList, hlist, List.length_map]
    have hval : ∀ j : Nat, j < xs.length → scr.slots[j]? = some (.int (xs.getD j 0)) := fun j hj => by
      rw [← Array.getElem?_toList, hlist]
      simp [hj]
    have hbl : b < s.heap.size := (Array.getElem?_eq_some_iff.mp hcb).1
    have hX : va_X b xs.length (fun j => xs.getD j 0) s s.heap := ⟨scr, hcb, hof, hkn, hsz, hval⟩
    have K : W p l e room_1 s m #[Value.ref b] below meth c s₁.heap [] 0 0 (lw_Z below #[Value.ref b] s) (entryFrame m ([Value.ref b] : List Value).toArray 4) := by
      rw [hh0]
      exact whole_start l hbd ⟨B.exec, B.bytes, B.returns, hml, hown, hts, hX, hbl, B.notSynchronized, hgv⟩
    obtain ⟨t, a1, o, b1, b2, b3⟩ := K s₁ rfl X₀
    exact ⟨t, o, a1, b1, b2, b3⟩
theorem lw_pre_spec {args : Array Value} {s : State} (h : (Jvm.Cond.and given_1 narrow_1).before args s = true) (hr : rest_1_c.before args s = true) : ∃ (b : Addr) (xs : List Int32), lw_P b xs args s := by
  have hs := flat_of_before _ h
  have hq := flat_of_before _ hr
  have hc : (Cond.count 1).before args s = true := hs _ (by decide +kernel)
  have harr : (Cond.arrayOf (.arg 0) .int).before args s = true := hs _ (by decide +kernel)
  have hle : (Cond.le (.length (.arg 0)) (.int 192)).before args s = true := hs _ (by decide +kernel)
  have hlen : (Cond.isInt (.length (.arg 0))).before args s = true := hq _ (by decide +kernel)
  have hall : (Cond.all (.arg 0) (.isInt (.elem (.arg 0) (.index 0)))).before args s = true := hq _ (by decide +kernel)
  obtain ⟨b, xs, hb, hx⟩ := State.ints_of_pre rfl harr hlen hall
  have hsm : xs.length < 2 ^ 31 := hx.choose_spec.2.2.2
  have hev : (Term.length (.arg 0)).eval args s none [] s = some (.int xs.length.toInt32) := hx.length_eval hb
  have hv := Cond.le_ints hev (show (Term.int 192).eval args s none [] s = some (.int 192) from rfl)
  have hd : xs.length.toInt32 ≤ 192 := by
    simpa [Cond.before, Cond.holds, hv] using hle
  have hN : xs.length ≤ 192 := (Int32.ofNat_le_ofNat hsm (by decide)).mp (show Int32.ofNat xs.length ≤ Int32.ofNat 192 from hd)
  exact ⟨b, xs, Cond.one_arg hc (show args[0]? = some (.ref b) from hb), hx, hN, h⟩
theorem lw_comes (l : Launch) : Comes l x (Jvm.Cond.code x code maxLocals ret :: tables_1) room_1 (fun tb e args s => Calls_1 tb e args s ∧ rest_1 tb e args s ∧ Pre_1 tb e args s)
    (fun _ _ args s o t => lw_Q args s o t) := by
  intro p e ha hc hk s m args below hf hfit hheap happ hpre
  obtain ⟨b, xs, hP⟩ := lw_pre_spec hpre.2.2 hpre.2.1
  obtain ⟨k, o, h1, h2, h3, hQ⟩ := lw_walk l b xs p e ha hc hk s m args below hf ((Spec.applies_iff_loose hf).mp happ).1 hP trivial
  exact ⟨k, o, h1, h2, h3, hQ⟩
theorem lw_frame {s t : State} {o : Outcome} {args : Array Value} (h : Framed s o t [] 600000 7302250) :
    Framed s o t (fieldLocs frame_1_writes args s ++ arrayLocs frame_1_arrays args s ++ staticLocs frame_1_statics s) 600000 7302250 := h
theorem lw_limb (L : Cond) (hL : ∀ (args : Array Value) (s t : State), L.after args s (.returned (some (.int 1))) t = true) :
    ArmFor flags0 classFile x code maxLocals ret World_1 tables_1 room_1 Calls_1 rest_1 Pre_1
      (fun tb e a s o t => postC L tb e a s o t ∧ Framed s o t (fieldLocs frame_1_writes a s ++ arrayLocs frame_1_arrays a s ++ staticLocs frame_1_statics s) 600000 7302250) := by
  intro l _ _ _ p e ha hc hk s m args below hf hfit hheap happ hpre
  obtain ⟨k, o, h1, h2, h3, rfl, hF⟩ := lw_comes l p e ha hc hk s m args below hf hfit hheap happ hpre
  exact ⟨k, _, h1, h2, h3, hL args s _, lw_frame hF⟩
theorem i_vc : Claimed_1_1 ∧ Claimed_1_2 := ⟨lw_limb limb_1_1 (fun args s t => by simp [limb_1_1, Cond.after, Cond.holds, Cond.value]), lw_limb limb_1_2 (fun args s t => Cond.after_iff.mpr (by
  first | (rw [show limb_1_2 = Cond.eq .result (.int 1) from rfl, Cond.eq_ints (x := 1) (y := 1) rfl rfl]; simp; done) | (simp [limb_1_2, Cond.value, Term.eval]; done)))⟩
end
