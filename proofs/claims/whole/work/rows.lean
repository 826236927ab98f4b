section
-- ===== PART A: goes FIRST, ahead of the names: the tables' words, and 'selects' of the private methods out of them =====
/-- a private method of a class that the tables say can be made, by its rows of tables_1 -/
def lw_okq (q : MethodName × Nat) : Prop := (q.1.cls ≠ "java/lang/invoke/MethodHandle" ∧ q.1.cls ≠ "java/lang/invoke/VarHandle") ∧ Cond.instantiable q.1.cls q.2 ∈ tables_1 ∧ Cond.privateMethod q.1 ∈ tables_1 ∧ Cond.instanceMethod q.1 ∈ tables_1
theorem lw_p0 : lw_okq (⟨"SignedCross$Reader", "skipBlanks", "()V"⟩, 7) := ⟨⟨by decide +kernel, by decide +kernel⟩, List.mem_of_getElem? (i := 21) (by decide +kernel), List.mem_of_getElem? (i := 253) (by decide +kernel), List.mem_of_getElem? (i := 254) (by decide +kernel)⟩
theorem lw_p1 : lw_okq (⟨"SignedCross$Reader", "letterHere", "()I"⟩, 7) := ⟨⟨by decide +kernel, by decide +kernel⟩, List.mem_of_getElem? (i := 21) (by decide +kernel), List.mem_of_getElem? (i := 257) (by decide +kernel), List.mem_of_getElem? (i := 258) (by decide +kernel)⟩
theorem lw_p2 : lw_okq (⟨"SignedCross$Reader", "readClause", "()V"⟩, 7) := ⟨⟨by decide +kernel, by decide +kernel⟩, List.mem_of_getElem? (i := 21) (by decide +kernel), List.mem_of_getElem? (i := 261) (by decide +kernel), List.mem_of_getElem? (i := 262) (by decide +kernel)⟩
theorem lw_p3 : lw_okq (⟨"SignedCross$Reader", "fail", "(II)V"⟩, 7) := ⟨⟨by decide +kernel, by decide +kernel⟩, List.mem_of_getElem? (i := 21) (by decide +kernel), List.mem_of_getElem? (i := 265) (by decide +kernel), List.mem_of_getElem? (i := 266) (by decide +kernel)⟩
theorem lw_p4 : lw_okq (⟨"SignedCross$Reader", "readGrandfather", "(I)V"⟩, 7) := ⟨⟨by decide +kernel, by decide +kernel⟩, List.mem_of_getElem? (i := 21) (by decide +kernel), List.mem_of_getElem? (i := 269) (by decide +kernel), List.mem_of_getElem? (i := 270) (by decide +kernel)⟩
theorem lw_p5 : lw_okq (⟨"SignedCross$Reader", "readNumber", "(I)I"⟩, 7) := ⟨⟨by decide +kernel, by decide +kernel⟩, List.mem_of_getElem? (i := 21) (by decide +kernel), List.mem_of_getElem? (i := 273) (by decide +kernel), List.mem_of_getElem? (i := 274) (by decide +kernel)⟩
theorem lw_p6 : lw_okq (⟨"SignedCross$Reader", "readEnd", "()V"⟩, 7) := ⟨⟨by decide +kernel, by decide +kernel⟩, List.mem_of_getElem? (i := 21) (by decide +kernel), List.mem_of_getElem? (i := 280) (by decide +kernel), List.mem_of_getElem? (i := 281) (by decide +kernel)⟩
theorem lw_p7 : lw_okq (⟨"SignedCross$Reader", "readPerson", "(I)V"⟩, 7) := ⟨⟨by decide +kernel, by decide +kernel⟩, List.mem_of_getElem? (i := 21) (by decide +kernel), List.mem_of_getElem? (i := 284) (by decide +kernel), List.mem_of_getElem? (i := 285) (by decide +kernel)⟩
theorem lw_p8 : lw_okq (⟨"SignedCross$Reader", "readPaper", "(I)V"⟩, 7) := ⟨⟨by decide +kernel, by decide +kernel⟩, List.mem_of_getElem? (i := 21) (by decide +kernel), List.mem_of_getElem? (i := 288) (by decide +kernel), List.mem_of_getElem? (i := 289) (by decide +kernel)⟩
theorem lw_p9 : lw_okq (⟨"SignedCross$Reader", "readCandidate", "(I)V"⟩, 7) := ⟨⟨by decide +kernel, by decide +kernel⟩, List.mem_of_getElem? (i := 21) (by decide +kernel), List.mem_of_getElem? (i := 296) (by decide +kernel), List.mem_of_getElem? (i := 297) (by decide +kernel)⟩
theorem lw_p10 : lw_okq (⟨"SignedCross", "isPerson", "(I)Z"⟩, 10) := ⟨⟨by decide +kernel, by decide +kernel⟩, List.mem_of_getElem? (i := 13) (by decide +kernel), List.mem_of_getElem? (i := 332) (by decide +kernel), List.mem_of_getElem? (i := 333) (by decide +kernel)⟩
theorem lw_p11 : lw_okq (⟨"SignedCross", "isPaper", "(I)Z"⟩, 10) := ⟨⟨by decide +kernel, by decide +kernel⟩, List.mem_of_getElem? (i := 13) (by decide +kernel), List.mem_of_getElem? (i := 347) (by decide +kernel), List.mem_of_getElem? (i := 348) (by decide +kernel)⟩
theorem lw_p12 : lw_okq (⟨"SignedCross", "isCandidate", "(I)Z"⟩, 10) := ⟨⟨by decide +kernel, by decide +kernel⟩, List.mem_of_getElem? (i := 13) (by decide +kernel), List.mem_of_getElem? (i := 355) (by decide +kernel), List.mem_of_getElem? (i := 356) (by decide +kernel)⟩
theorem lw_p13 : lw_okq (⟨"SignedCross", "passYears", "(LSignedCross$State;I)V"⟩, 10) := ⟨⟨by decide +kernel, by decide +kernel⟩, List.mem_of_getElem? (i := 13) (by decide +kernel), List.mem_of_getElem? (i := 372) (by decide +kernel), List.mem_of_getElem? (i := 373) (by decide +kernel)⟩
theorem lw_p14 : lw_okq (⟨"SignedCross", "aged", "(IIZ)I"⟩, 10) := ⟨⟨by decide +kernel, by decide +kernel⟩, List.mem_of_getElem? (i := 13) (by decide +kernel), List.mem_of_getElem? (i := 376) (by decide +kernel), List.mem_of_getElem? (i := 377) (by decide +kernel)⟩
theorem lw_p15 : lw_okq (⟨"SignedCross", "shakeOnce", "()V"⟩, 10) := ⟨⟨by decide +kernel, by decide +kernel⟩, List.mem_of_getElem? (i := 13) (by decide +kernel), List.mem_of_getElem? (i := 407) (by decide +kernel), List.mem_of_getElem? (i := 408) (by decide +kernel)⟩
def lw_privs_1 : List (MethodName × Nat) := [(⟨"SignedCross$Reader", "skipBlanks", "()V"⟩, 7), (⟨"SignedCross$Reader", "letterHere", "()I"⟩, 7), (⟨"SignedCross$Reader", "readClause", "()V"⟩, 7), (⟨"SignedCross$Reader", "fail", "(II)V"⟩, 7), (⟨"SignedCross$Reader", "readGrandfather", "(I)V"⟩, 7), (⟨"SignedCross$Reader", "readNumber", "(I)I"⟩, 7), (⟨"SignedCross$Reader", "readEnd", "()V"⟩, 7), (⟨"SignedCross$Reader", "readPerson", "(I)V"⟩, 7), (⟨"SignedCross$Reader", "readPaper", "(I)V"⟩, 7), (⟨"SignedCross$Reader", "readCandidate", "(I)V"⟩, 7), (⟨"SignedCross", "isPerson", "(I)Z"⟩, 10), (⟨"SignedCross", "isPaper", "(I)Z"⟩, 10), (⟨"SignedCross", "isCandidate", "(I)Z"⟩, 10), (⟨"SignedCross", "passYears", "(LSignedCross$State;I)V"⟩, 10), (⟨"SignedCross", "aged", "(IIZ)I"⟩, 10), (⟨"SignedCross", "shakeOnce", "()V"⟩, 10)]
theorem lw_r1 : ∀ q ∈ lw_privs_1, lw_okq q := List.forall_mem_cons.mpr ⟨lw_p0, List.forall_mem_cons.mpr ⟨lw_p1, List.forall_mem_cons.mpr ⟨lw_p2, List.forall_mem_cons.mpr ⟨lw_p3, List.forall_mem_cons.mpr ⟨lw_p4, List.forall_mem_cons.mpr ⟨lw_p5, List.forall_mem_cons.mpr ⟨lw_p6, List.forall_mem_cons.mpr ⟨lw_p7, List.forall_mem_cons.mpr ⟨lw_p8, List.forall_mem_cons.mpr ⟨lw_p9, List.forall_mem_cons.mpr ⟨lw_p10, List.forall_mem_cons.mpr ⟨lw_p11, List.forall_mem_cons.mpr ⟨lw_p12, List.forall_mem_cons.mpr ⟨lw_p13, List.forall_mem_cons.mpr ⟨lw_p14, List.forall_mem_cons.mpr ⟨lw_p15, fun _ h => absurd h List.not_mem_nil⟩⟩⟩⟩⟩⟩⟩⟩⟩⟩⟩⟩⟩⟩⟩⟩
theorem lw_p16 : lw_okq (⟨"SignedCross", "draw", "(I)I"⟩, 10) := ⟨⟨by decide +kernel, by decide +kernel⟩, List.mem_of_getElem? (i := 13) (by decide +kernel), List.mem_of_getElem? (i := 411) (by decide +kernel), List.mem_of_getElem? (i := 412) (by decide +kernel)⟩
theorem lw_p17 : lw_okq (⟨"SignedCross", "passSet", "(I)I"⟩, 10) := ⟨⟨by decide +kernel, by decide +kernel⟩, List.mem_of_getElem? (i := 13) (by decide +kernel), List.mem_of_getElem? (i := 431) (by decide +kernel), List.mem_of_getElem? (i := 432) (by decide +kernel)⟩
theorem lw_p18 : lw_okq (⟨"SignedCross", "passes", "(II)Z"⟩, 10) := ⟨⟨by decide +kernel, by decide +kernel⟩, List.mem_of_getElem? (i := 13) (by decide +kernel), List.mem_of_getElem? (i := 435) (by decide +kernel), List.mem_of_getElem? (i := 436) (by decide +kernel)⟩
theorem lw_p19 : lw_okq (⟨"SignedCross", "weight", "(I)I"⟩, 10) := ⟨⟨by decide +kernel, by decide +kernel⟩, List.mem_of_getElem? (i := 13) (by decide +kernel), List.mem_of_getElem? (i := 446) (by decide +kernel), List.mem_of_getElem? (i := 447) (by decide +kernel)⟩
theorem lw_p20 : lw_okq (⟨"SignedCross", "passCount", "(I)I"⟩, 10) := ⟨⟨by decide +kernel, by decide +kernel⟩, List.mem_of_getElem? (i := 13) (by decide +kernel), List.mem_of_getElem? (i := 450) (by decide +kernel), List.mem_of_getElem? (i := 451) (by decide +kernel)⟩
theorem lw_p21 : lw_okq (⟨"SignedCross", "nextOfTree", "()I"⟩, 10) := ⟨⟨by decide +kernel, by decide +kernel⟩, List.mem_of_getElem? (i := 13) (by decide +kernel), List.mem_of_getElem? (i := 464) (by decide +kernel), List.mem_of_getElem? (i := 465) (by decide +kernel)⟩
theorem lw_p22 : lw_okq (⟨"SignedCross", "joinGroups", "(II)V"⟩, 10) := ⟨⟨by decide +kernel, by decide +kernel⟩, List.mem_of_getElem? (i := 13) (by decide +kernel), List.mem_of_getElem? (i := 468) (by decide +kernel), List.mem_of_getElem? (i := 469) (by decide +kernel)⟩
theorem lw_p23 : lw_okq (⟨"SignedCross", "nearestTo", "(I)I"⟩, 10) := ⟨⟨by decide +kernel, by decide +kernel⟩, List.mem_of_getElem? (i := 13) (by decide +kernel), List.mem_of_getElem? (i := 476) (by decide +kernel), List.mem_of_getElem? (i := 477) (by decide +kernel)⟩
theorem lw_p24 : lw_okq (⟨"SignedCross", "allToldApart", "(I)Z"⟩, 10) := ⟨⟨by decide +kernel, by decide +kernel⟩, List.mem_of_getElem? (i := 13) (by decide +kernel), List.mem_of_getElem? (i := 490) (by decide +kernel), List.mem_of_getElem? (i := 491) (by decide +kernel)⟩
theorem lw_p25 : lw_okq (⟨"SignedCross", "toldApart", "(LSignedCross$State;II)Z"⟩, 10) := ⟨⟨by decide +kernel, by decide +kernel⟩, List.mem_of_getElem? (i := 13) (by decide +kernel), List.mem_of_getElem? (i := 494) (by decide +kernel), List.mem_of_getElem? (i := 495) (by decide +kernel)⟩
theorem lw_p26 : lw_okq (⟨"SignedCross", "choice", "(I)I"⟩, 10) := ⟨⟨by decide +kernel, by decide +kernel⟩, List.mem_of_getElem? (i := 13) (by decide +kernel), List.mem_of_getElem? (i := 526) (by decide +kernel), List.mem_of_getElem? (i := 527) (by decide +kernel)⟩
theorem lw_p27 : lw_okq (⟨"SignedCross", "greatestAlike", "(II)I"⟩, 10) := ⟨⟨by decide +kernel, by decide +kernel⟩, List.mem_of_getElem? (i := 13) (by decide +kernel), List.mem_of_getElem? (i := 555) (by decide +kernel), List.mem_of_getElem? (i := 556) (by decide +kernel)⟩
theorem lw_p28 : lw_okq (⟨"SignedCrossModel", "here", "()I"⟩, 32) := ⟨⟨by decide +kernel, by decide +kernel⟩, List.mem_of_getElem? (i := 590) (by decide +kernel), List.mem_of_getElem? (i := 708) (by decide +kernel), List.mem_of_getElem? (i := 709) (by decide +kernel)⟩
theorem lw_p29 : lw_okq (⟨"SignedCrossModel", "letterAt", "(I)I"⟩, 32) := ⟨⟨by decide +kernel, by decide +kernel⟩, List.mem_of_getElem? (i := 590) (by decide +kernel), List.mem_of_getElem? (i := 712) (by decide +kernel), List.mem_of_getElem? (i := 713) (by decide +kernel)⟩
theorem lw_p30 : lw_okq (⟨"SignedCrossModel", "takesClause", "()Z"⟩, 32) := ⟨⟨by decide +kernel, by decide +kernel⟩, List.mem_of_getElem? (i := 590) (by decide +kernel), List.mem_of_getElem? (i := 716) (by decide +kernel), List.mem_of_getElem? (i := 717) (by decide +kernel)⟩
theorem lw_p31 : lw_okq (⟨"SignedCrossModel", "fails", "(II)Z"⟩, 32) := ⟨⟨by decide +kernel, by decide +kernel⟩, List.mem_of_getElem? (i := 590) (by decide +kernel), List.mem_of_getElem? (i := 720) (by decide +kernel), List.mem_of_getElem? (i := 721) (by decide +kernel)⟩
def lw_privs_2 : List (MethodName × Nat) := [(⟨"SignedCross", "draw", "(I)I"⟩, 10), (⟨"SignedCross", "passSet", "(I)I"⟩, 10), (⟨"SignedCross", "passes", "(II)Z"⟩, 10), (⟨"SignedCross", "weight", "(I)I"⟩, 10), (⟨"SignedCross", "passCount", "(I)I"⟩, 10), (⟨"SignedCross", "nextOfTree", "()I"⟩, 10), (⟨"SignedCross", "joinGroups", "(II)V"⟩, 10), (⟨"SignedCross", "nearestTo", "(I)I"⟩, 10), (⟨"SignedCross", "allToldApart", "(I)Z"⟩, 10), (⟨"SignedCross", "toldApart", "(LSignedCross$State;II)Z"⟩, 10), (⟨"SignedCross", "choice", "(I)I"⟩, 10), (⟨"SignedCross", "greatestAlike", "(II)I"⟩, 10), (⟨"SignedCrossModel", "here", "()I"⟩, 32), (⟨"SignedCrossModel", "letterAt", "(I)I"⟩, 32), (⟨"SignedCrossModel", "takesClause", "()Z"⟩, 32), (⟨"SignedCrossModel", "fails", "(II)Z"⟩, 32)]
theorem lw_r2 : ∀ q ∈ lw_privs_2, lw_okq q := List.forall_mem_cons.mpr ⟨lw_p16, List.forall_mem_cons.mpr ⟨lw_p17, List.forall_mem_cons.mpr ⟨lw_p18, List.forall_mem_cons.mpr ⟨lw_p19, List.forall_mem_cons.mpr ⟨lw_p20, List.forall_mem_cons.mpr ⟨lw_p21, List.forall_mem_cons.mpr ⟨lw_p22, List.forall_mem_cons.mpr ⟨lw_p23, List.forall_mem_cons.mpr ⟨lw_p24, List.forall_mem_cons.mpr ⟨lw_p25, List.forall_mem_cons.mpr ⟨lw_p26, List.forall_mem_cons.mpr ⟨lw_p27, List.forall_mem_cons.mpr ⟨lw_p28, List.forall_mem_cons.mpr ⟨lw_p29, List.forall_mem_cons.mpr ⟨lw_p30, List.forall_mem_cons.mpr ⟨lw_p31, fun _ h => absurd h List.not_mem_nil⟩⟩⟩⟩⟩⟩⟩⟩⟩⟩⟩⟩⟩⟩⟩⟩
theorem lw_p32 : lw_okq (⟨"SignedCrossModel", "takesGrand", "()Z"⟩, 32) := ⟨⟨by decide +kernel, by decide +kernel⟩, List.mem_of_getElem? (i := 590) (by decide +kernel), List.mem_of_getElem? (i := 724) (by decide +kernel), List.mem_of_getElem? (i := 725) (by decide +kernel)⟩
theorem lw_p33 : lw_okq (⟨"SignedCrossModel", "takesNumber", "(I)Z"⟩, 32) := ⟨⟨by decide +kernel, by decide +kernel⟩, List.mem_of_getElem? (i := 590) (by decide +kernel), List.mem_of_getElem? (i := 728) (by decide +kernel), List.mem_of_getElem? (i := 729) (by decide +kernel)⟩
theorem lw_p34 : lw_okq (⟨"SignedCrossModel", "takesPerson", "()Z"⟩, 32) := ⟨⟨by decide +kernel, by decide +kernel⟩, List.mem_of_getElem? (i := 590) (by decide +kernel), List.mem_of_getElem? (i := 734) (by decide +kernel), List.mem_of_getElem? (i := 735) (by decide +kernel)⟩
theorem lw_p35 : lw_okq (⟨"SignedCrossModel", "takesPaper", "()Z"⟩, 32) := ⟨⟨by decide +kernel, by decide +kernel⟩, List.mem_of_getElem? (i := 590) (by decide +kernel), List.mem_of_getElem? (i := 738) (by decide +kernel), List.mem_of_getElem? (i := 739) (by decide +kernel)⟩
theorem lw_p36 : lw_okq (⟨"SignedCrossModel", "takesCandidate", "()Z"⟩, 32) := ⟨⟨by decide +kernel, by decide +kernel⟩, List.mem_of_getElem? (i := 590) (by decide +kernel), List.mem_of_getElem? (i := 742) (by decide +kernel), List.mem_of_getElem? (i := 743) (by decide +kernel)⟩
theorem lw_p37 : lw_okq (⟨"SignedCrossModel", "takes", "(I)Z"⟩, 32) := ⟨⟨by decide +kernel, by decide +kernel⟩, List.mem_of_getElem? (i := 590) (by decide +kernel), List.mem_of_getElem? (i := 746) (by decide +kernel), List.mem_of_getElem? (i := 747) (by decide +kernel)⟩
theorem lw_p38 : lw_okq (⟨"SignedCrossModel", "isPerson", "(I)Z"⟩, 32) := ⟨⟨by decide +kernel, by decide +kernel⟩, List.mem_of_getElem? (i := 590) (by decide +kernel), List.mem_of_getElem? (i := 762) (by decide +kernel), List.mem_of_getElem? (i := 763) (by decide +kernel)⟩
theorem lw_p39 : lw_okq (⟨"SignedCrossModel", "isPaper", "(I)Z"⟩, 32) := ⟨⟨by decide +kernel, by decide +kernel⟩, List.mem_of_getElem? (i := 590) (by decide +kernel), List.mem_of_getElem? (i := 780) (by decide +kernel), List.mem_of_getElem? (i := 781) (by decide +kernel)⟩
theorem lw_p40 : lw_okq (⟨"SignedCrossModel", "isCandidate", "(I)Z"⟩, 32) := ⟨⟨by decide +kernel, by decide +kernel⟩, List.mem_of_getElem? (i := 590) (by decide +kernel), List.mem_of_getElem? (i := 788) (by decide +kernel), List.mem_of_getElem? (i := 789) (by decide +kernel)⟩
theorem lw_p41 : lw_okq (⟨"SignedCrossModel", "copy", "(II)V"⟩, 32) := ⟨⟨by decide +kernel, by decide +kernel⟩, List.mem_of_getElem? (i := 590) (by decide +kernel), List.mem_of_getElem? (i := 797) (by decide +kernel), List.mem_of_getElem? (i := 798) (by decide +kernel)⟩
theorem lw_p42 : lw_okq (⟨"SignedCrossModel", "minds", "()V"⟩, 32) := ⟨⟨by decide +kernel, by decide +kernel⟩, List.mem_of_getElem? (i := 590) (by decide +kernel), List.mem_of_getElem? (i := 806) (by decide +kernel), List.mem_of_getElem? (i := 807) (by decide +kernel)⟩
theorem lw_p43 : lw_okq (⟨"SignedCrossModel", "passesYear", "(I)V"⟩, 32) := ⟨⟨by decide +kernel, by decide +kernel⟩, List.mem_of_getElem? (i := 590) (by decide +kernel), List.mem_of_getElem? (i := 810) (by decide +kernel), List.mem_of_getElem? (i := 811) (by decide +kernel)⟩
theorem lw_p44 : lw_okq (⟨"SignedCrossModel", "draw", "(I)I"⟩, 32) := ⟨⟨by decide +kernel, by decide +kernel⟩, List.mem_of_getElem? (i := 590) (by decide +kernel), List.mem_of_getElem? (i := 834) (by decide +kernel), List.mem_of_getElem? (i := 835) (by decide +kernel)⟩
theorem lw_p45 : lw_okq (⟨"SignedCrossModel", "whoseIs", "(I)I"⟩, 32) := ⟨⟨by decide +kernel, by decide +kernel⟩, List.mem_of_getElem? (i := 590) (by decide +kernel), List.mem_of_getElem? (i := 849) (by decide +kernel), List.mem_of_getElem? (i := 850) (by decide +kernel)⟩
theorem lw_p46 : lw_okq (⟨"SignedCrossModel", "passesFor", "(II)Z"⟩, 32) := ⟨⟨by decide +kernel, by decide +kernel⟩, List.mem_of_getElem? (i := 590) (by decide +kernel), List.mem_of_getElem? (i := 853) (by decide +kernel), List.mem_of_getElem? (i := 854) (by decide +kernel)⟩
theorem lw_p47 : lw_okq (⟨"SignedCrossModel", "marksOf", "(I)I"⟩, 32) := ⟨⟨by decide +kernel, by decide +kernel⟩, List.mem_of_getElem? (i := 590) (by decide +kernel), List.mem_of_getElem? (i := 868) (by decide +kernel), List.mem_of_getElem? (i := 869) (by decide +kernel)⟩
def lw_privs_3 : List (MethodName × Nat) := [(⟨"SignedCrossModel", "takesGrand", "()Z"⟩, 32), (⟨"SignedCrossModel", "takesNumber", "(I)Z"⟩, 32), (⟨"SignedCrossModel", "takesPerson", "()Z"⟩, 32), (⟨"SignedCrossModel", "takesPaper", "()Z"⟩, 32), (⟨"SignedCrossModel", "takesCandidate", "()Z"⟩, 32), (⟨"SignedCrossModel", "takes", "(I)Z"⟩, 32), (⟨"SignedCrossModel", "isPerson", "(I)Z"⟩, 32), (⟨"SignedCrossModel", "isPaper", "(I)Z"⟩, 32), (⟨"SignedCrossModel", "isCandidate", "(I)Z"⟩, 32), (⟨"SignedCrossModel", "copy", "(II)V"⟩, 32), (⟨"SignedCrossModel", "minds", "()V"⟩, 32), (⟨"SignedCrossModel", "passesYear", "(I)V"⟩, 32), (⟨"SignedCrossModel", "draw", "(I)I"⟩, 32), (⟨"SignedCrossModel", "whoseIs", "(I)I"⟩, 32), (⟨"SignedCrossModel", "passesFor", "(II)Z"⟩, 32), (⟨"SignedCrossModel", "marksOf", "(I)I"⟩, 32)]
theorem lw_r3 : ∀ q ∈ lw_privs_3, lw_okq q := List.forall_mem_cons.mpr ⟨lw_p32, List.forall_mem_cons.mpr ⟨lw_p33, List.forall_mem_cons.mpr ⟨lw_p34, List.forall_mem_cons.mpr ⟨lw_p35, List.forall_mem_cons.mpr ⟨lw_p36, List.forall_mem_cons.mpr ⟨lw_p37, List.forall_mem_cons.mpr ⟨lw_p38, List.forall_mem_cons.mpr ⟨lw_p39, List.forall_mem_cons.mpr ⟨lw_p40, List.forall_mem_cons.mpr ⟨lw_p41, List.forall_mem_cons.mpr ⟨lw_p42, List.forall_mem_cons.mpr ⟨lw_p43, List.forall_mem_cons.mpr ⟨lw_p44, List.forall_mem_cons.mpr ⟨lw_p45, List.forall_mem_cons.mpr ⟨lw_p46, List.forall_mem_cons.mpr ⟨lw_p47, fun _ h => absurd h List.not_mem_nil⟩⟩⟩⟩⟩⟩⟩⟩⟩⟩⟩⟩⟩⟩⟩⟩
theorem lw_p48 : lw_okq (⟨"SignedCrossModel", "between", "(II)I"⟩, 32) := ⟨⟨by decide +kernel, by decide +kernel⟩, List.mem_of_getElem? (i := 590) (by decide +kernel), List.mem_of_getElem? (i := 881) (by decide +kernel), List.mem_of_getElem? (i := 882) (by decide +kernel)⟩
theorem lw_p49 : lw_okq (⟨"SignedCrossModel", "kinOf", "(I)I"⟩, 32) := ⟨⟨by decide +kernel, by decide +kernel⟩, List.mem_of_getElem? (i := 590) (by decide +kernel), List.mem_of_getElem? (i := 889) (by decide +kernel), List.mem_of_getElem? (i := 890) (by decide +kernel)⟩
theorem lw_p50 : lw_okq (⟨"SignedCrossModel", "areToldApart", "(III)Z"⟩, 32) := ⟨⟨by decide +kernel, by decide +kernel⟩, List.mem_of_getElem? (i := 590) (by decide +kernel), List.mem_of_getElem? (i := 900) (by decide +kernel), List.mem_of_getElem? (i := 901) (by decide +kernel)⟩
theorem lw_p51 : lw_okq (⟨"SignedCrossModel", "voteOf", "(I)I"⟩, 32) := ⟨⟨by decide +kernel, by decide +kernel⟩, List.mem_of_getElem? (i := 590) (by decide +kernel), List.mem_of_getElem? (i := 932) (by decide +kernel), List.mem_of_getElem? (i := 933) (by decide +kernel)⟩
theorem lw_p52 : lw_okq (⟨"SignedCrossModel", "makersOfSeen", "()I"⟩, 32) := ⟨⟨by decide +kernel, by decide +kernel⟩, List.mem_of_getElem? (i := 590) (by decide +kernel), List.mem_of_getElem? (i := 952) (by decide +kernel), List.mem_of_getElem? (i := 953) (by decide +kernel)⟩
def lw_privs_4 : List (MethodName × Nat) := [(⟨"SignedCrossModel", "between", "(II)I"⟩, 32), (⟨"SignedCrossModel", "kinOf", "(I)I"⟩, 32), (⟨"SignedCrossModel", "areToldApart", "(III)Z"⟩, 32), (⟨"SignedCrossModel", "voteOf", "(I)I"⟩, 32), (⟨"SignedCrossModel", "makersOfSeen", "()I"⟩, 32)]
theorem lw_r4 : ∀ q ∈ lw_privs_4, lw_okq q := List.forall_mem_cons.mpr ⟨lw_p48, List.forall_mem_cons.mpr ⟨lw_p49, List.forall_mem_cons.mpr ⟨lw_p50, List.forall_mem_cons.mpr ⟨lw_p51, List.forall_mem_cons.mpr ⟨lw_p52, fun _ h => absurd h List.not_mem_nil⟩⟩⟩⟩⟩
def lw_privs : List (MethodName × Nat) := lw_privs_1 ++ (lw_privs_2 ++ (lw_privs_3 ++ (lw_privs_4)))
def lw_tbl : List Cond := k2_sels lw_privs ++ tables_1
theorem lw_privs_ok : ∀ q ∈ lw_privs, lw_okq q := by
  show ∀ q ∈ lw_privs_1 ++ (lw_privs_2 ++ (lw_privs_3 ++ (lw_privs_4))), lw_okq q
  exact List.forall_mem_append.mpr ⟨lw_r1, List.forall_mem_append.mpr ⟨lw_r2, List.forall_mem_append.mpr ⟨lw_r3, lw_r4⟩⟩⟩
-- ===== end of PART A; then your names; then what follows =====
-- names: printed by the kit's program (claim/NAMES.whole.lean.txt), its rows of names alone
def RX0 : String := "SignedCross$Clan"
def TX0 : u_T := fun k => match k with
  | 0 => ("SignedCross$Clan", "there", "Z", false)
  | 1 => ("SignedCross$Clan", "grandfather", "I", false)
  | 2 => ("SignedCross$Clan", "persons", "I", false)
  | 3 => ("SignedCross$Clan", "slips", "[I", true)
  | 4 => ("SignedCross$Clan", "drifts", "[I", true)
  | 5 => ("SignedCross$Clan", "candidates", "I", false)
  | _ => ("SignedCross$Clan", "squares", "[I", true)
def tyX0 : Nat → FieldType := fun k => match k with
  | 0 => .boolean
  | 1 => .int
  | 2 => .int
  | 3 => .array .int
  | 4 => .array .int
  | 5 => .int
  | _ => .array .int
abbrev wsX00 : List Cond := u_ws RX0 TX0 7
theorem nmX0 : ∀ a, a < 7 → ∀ b, b < 7 → a ≠ b → (TX0 a).2.1 ≠ (TX0 b).2.1 := by decide +kernel
theorem tyX0_ok : ∀ k, k < 7 → parseFieldDescriptor (TX0 k).2.2.1 = some (tyX0 k) := by decide +kernel
abbrev cX0_init : ByteArray := prog_2_method_1_code
def yX0_init : MethodName := ⟨RX0, "<init>", "()V"⟩
abbrev cX0_empty : ByteArray := prog_2_method_2_code
def yX0_empty : MethodName := ⟨RX0, "empty", "()V"⟩
abbrev cX0_takeFrom : ByteArray := prog_2_method_3_code
def yX0_takeFrom : MethodName := ⟨RX0, "takeFrom", "(LSignedCross$Clan;)V"⟩
def RX1 : String := "SignedCross$History"
def TX1 : u_T := fun k => match k with
  | 0 => ("SignedCross$History", "states", "[LSignedCross$State;", true)
  | 1 => ("SignedCross$History", "count", "I", false)
  | _ => ("SignedCross$History", "next", "I", false)
def tyX1 : Nat → FieldType := fun k => match k with
  | 0 => .array (.object "SignedCross$State")
  | 1 => .int
  | _ => .int
abbrev wsX10 : List Cond := u_ws RX1 TX1 3
theorem nmX1 : ∀ a, a < 3 → ∀ b, b < 3 → a ≠ b → (TX1 a).2.1 ≠ (TX1 b).2.1 := by decide +kernel
theorem tyX1_ok : ∀ k, k < 3 → parseFieldDescriptor (TX1 k).2.2.1 = some (tyX1 k) := by decide +kernel
abbrev cX1_init : ByteArray := prog_3_method_1_code
def yX1_init : MethodName := ⟨RX1, "<init>", "()V"⟩
abbrev cX1_push : ByteArray := prog_3_method_2_code
def yX1_push : MethodName := ⟨RX1, "push", "(LSignedCross$State;)V"⟩
abbrev cX1_popInto : ByteArray := prog_3_method_3_code
def yX1_popInto : MethodName := ⟨RX1, "popInto", "(LSignedCross$State;)V"⟩
abbrev cX1_forgetAll : ByteArray := prog_3_method_4_code
def yX1_forgetAll : MethodName := ⟨RX1, "forgetAll", "()V"⟩
def RX2 : String := "SignedCross$Image"
def TX2 : u_T := fun k => match k with
  | 0 => ("SignedCross$Image", "kept", "Z", false)
  | 1 => ("SignedCross$Image", "state", "LSignedCross$State;", true)
  | _ => ("SignedCross$Image", "seedThen", "I", false)
def tyX2 : Nat → FieldType := fun k => match k with
  | 0 => .boolean
  | 1 => .object "SignedCross$State"
  | _ => .int
abbrev wsX20 : List Cond := u_ws RX2 TX2 3
theorem nmX2 : ∀ a, a < 3 → ∀ b, b < 3 → a ≠ b → (TX2 a).2.1 ≠ (TX2 b).2.1 := by decide +kernel
theorem tyX2_ok : ∀ k, k < 3 → parseFieldDescriptor (TX2 k).2.2.1 = some (tyX2 k) := by decide +kernel
abbrev cX2_init : ByteArray := prog_4_method_1_code
def yX2_init : MethodName := ⟨RX2, "<init>", "()V"⟩
def RX3 : String := "SignedCross$Notes"
def TX3 : u_T := fun k => match k with
  | 0 => ("SignedCross$Notes", "seenCount", "I", false)
  | 1 => ("SignedCross$Notes", "seen", "[I", true)
  | 2 => ("SignedCross$Notes", "entryCount", "I", false)
  | 3 => ("SignedCross$Notes", "entryPersons", "[I", true)
  | _ => ("SignedCross$Notes", "entryMarks", "[I", true)
def tyX3 : Nat → FieldType := fun k => match k with
  | 0 => .int
  | 1 => .array .int
  | 2 => .int
  | 3 => .array .int
  | _ => .array .int
abbrev wsX30 : List Cond := u_ws RX3 TX3 5
theorem nmX3 : ∀ a, a < 5 → ∀ b, b < 5 → a ≠ b → (TX3 a).2.1 ≠ (TX3 b).2.1 := by decide +kernel
theorem tyX3_ok : ∀ k, k < 5 → parseFieldDescriptor (TX3 k).2.2.1 = some (tyX3 k) := by decide +kernel
abbrev cX3_init : ByteArray := prog_5_method_1_code
def yX3_init : MethodName := ⟨RX3, "<init>", "()V"⟩
abbrev cX3_addSeen : ByteArray := prog_5_method_2_code
def yX3_addSeen : MethodName := ⟨RX3, "addSeen", "(I)V"⟩
abbrev cX3_addEntry : ByteArray := prog_5_method_3_code
def yX3_addEntry : MethodName := ⟨RX3, "addEntry", "(II)V"⟩
abbrev cX3_clearAll : ByteArray := prog_5_method_4_code
def yX3_clearAll : MethodName := ⟨RX3, "clearAll", "()V"⟩
def RX4 : String := "SignedCross$Reader"
def TX4 : u_T := fun k => match k with
  | 0 => ("SignedCross$Reader", "letters", "[I", true)
  | 1 => ("SignedCross$Reader", "length", "I", false)
  | 2 => ("SignedCross$Reader", "draft", "LSignedCross$Clan;", true)
  | 3 => ("SignedCross$Reader", "start", "LSignedCross$State;", true)
  | 4 => ("SignedCross$Reader", "at", "I", false)
  | 5 => ("SignedCross$Reader", "fault", "I", false)
  | _ => ("SignedCross$Reader", "faultAt", "I", false)
def tyX4 : Nat → FieldType := fun k => match k with
  | 0 => .array .int
  | 1 => .int
  | 2 => .object "SignedCross$Clan"
  | 3 => .object "SignedCross$State"
  | 4 => .int
  | 5 => .int
  | _ => .int
abbrev wsX40 : List Cond := u_ws RX4 TX4 7
theorem nmX4 : ∀ a, a < 7 → ∀ b, b < 7 → a ≠ b → (TX4 a).2.1 ≠ (TX4 b).2.1 := by decide +kernel
theorem tyX4_ok : ∀ k, k < 7 → parseFieldDescriptor (TX4 k).2.2.1 = some (tyX4 k) := by decide +kernel
abbrev cX4_init : ByteArray := prog_6_method_1_code
def yX4_init : MethodName := ⟨RX4, "<init>", "()V"⟩
abbrev cX4_addLetter : ByteArray := prog_6_method_2_code
def yX4_addLetter : MethodName := ⟨RX4, "addLetter", "(I)V"⟩
abbrev cX4_readAll : ByteArray := prog_6_method_3_code
def yX4_readAll : MethodName := ⟨RX4, "readAll", "()I"⟩
abbrev cX4_readClause : ByteArray := prog_6_method_4_code
def yX4_readClause : MethodName := ⟨RX4, "readClause", "()V"⟩
abbrev cX4_readGrandfather : ByteArray := prog_6_method_5_code
def yX4_readGrandfather : MethodName := ⟨RX4, "readGrandfather", "(I)V"⟩
abbrev cX4_readPerson : ByteArray := prog_6_method_6_code
def yX4_readPerson : MethodName := ⟨RX4, "readPerson", "(I)V"⟩
abbrev cX4_readPaper : ByteArray := prog_6_method_7_code
def yX4_readPaper : MethodName := ⟨RX4, "readPaper", "(I)V"⟩
abbrev cX4_readCandidate : ByteArray := prog_6_method_8_code
def yX4_readCandidate : MethodName := ⟨RX4, "readCandidate", "(I)V"⟩
abbrev cX4_readNumber : ByteArray := prog_6_method_9_code
def yX4_readNumber : MethodName := ⟨RX4, "readNumber", "(I)I"⟩
abbrev cX4_readEnd : ByteArray := prog_6_method_10_code
def yX4_readEnd : MethodName := ⟨RX4, "readEnd", "()V"⟩
abbrev cX4_fail : ByteArray := prog_6_method_11_code
def yX4_fail : MethodName := ⟨RX4, "fail", "(II)V"⟩
abbrev cX4_skipBlanks : ByteArray := prog_6_method_12_code
def yX4_skipBlanks : MethodName := ⟨RX4, "skipBlanks", "()V"⟩
abbrev cX4_letterHere : ByteArray := prog_6_method_13_code
def yX4_letterHere : MethodName := ⟨RX4, "letterHere", "()I"⟩
abbrev cX4_isFigure : ByteArray := prog_6_method_14_code
def yX4_isFigure : MethodName := ⟨RX4, "isFigure", "(I)Z"⟩
def RX5 : String := "SignedCross$State"
def TX5 : u_T := fun k => match k with
  | 0 => ("SignedCross$State", "hands", "[I", true)
  | 1 => ("SignedCross$State", "papers", "I", false)
  | 2 => ("SignedCross$State", "paperMarks", "[I", true)
  | 3 => ("SignedCross$State", "paperNames", "[I", true)
  | _ => ("SignedCross$State", "years", "I", false)
def tyX5 : Nat → FieldType := fun k => match k with
  | 0 => .array .int
  | 1 => .int
  | 2 => .array .int
  | 3 => .array .int
  | _ => .int
abbrev wsX50 : List Cond := u_ws RX5 TX5 5
theorem nmX5 : ∀ a, a < 5 → ∀ b, b < 5 → a ≠ b → (TX5 a).2.1 ≠ (TX5 b).2.1 := by decide +kernel
theorem tyX5_ok : ∀ k, k < 5 → parseFieldDescriptor (TX5 k).2.2.1 = some (tyX5 k) := by decide +kernel
abbrev cX5_init : ByteArray := prog_7_method_1_code
def yX5_init : MethodName := ⟨RX5, "<init>", "()V"⟩
abbrev cX5_empty : ByteArray := prog_7_method_2_code
def yX5_empty : MethodName := ⟨RX5, "empty", "()V"⟩
abbrev cX5_addPaper : ByteArray := prog_7_method_3_code
def yX5_addPaper : MethodName := ⟨RX5, "addPaper", "(II)V"⟩
abbrev cX5_takeFrom : ByteArray := prog_7_method_4_code
def yX5_takeFrom : MethodName := ⟨RX5, "takeFrom", "(LSignedCross$State;)V"⟩
def RX6 : String := "SignedCross"
def TX6 : u_T := fun k => match k with
  | 0 => ("SignedCross", "reader", "LSignedCross$Reader;", true)
  | 1 => ("SignedCross", "clan", "LSignedCross$Clan;", true)
  | 2 => ("SignedCross", "now", "LSignedCross$State;", true)
  | 3 => ("SignedCross", "tried", "LSignedCross$State;", true)
  | 4 => ("SignedCross", "history", "LSignedCross$History;", true)
  | 5 => ("SignedCross", "images", "[LSignedCross$Image;", true)
  | 6 => ("SignedCross", "notes", "LSignedCross$Notes;", true)
  | 7 => ("SignedCross", "groups", "[I", true)
  | 8 => ("SignedCross", "seedNow", "I", false)
  | _ => ("SignedCross", "faultAt", "I", false)
def tyX6 : Nat → FieldType := fun k => match k with
  | 0 => .object "SignedCross$Reader"
  | 1 => .object "SignedCross$Clan"
  | 2 => .object "SignedCross$State"
  | 3 => .object "SignedCross$State"
  | 4 => .object "SignedCross$History"
  | 5 => .array (.object "SignedCross$Image")
  | 6 => .object "SignedCross$Notes"
  | 7 => .array .int
  | 8 => .int
  | _ => .int
abbrev wsX60 : List Cond := u_ws RX6 TX6 10
theorem nmX6 : ∀ a, a < 10 → ∀ b, b < 10 → a ≠ b → (TX6 a).2.1 ≠ (TX6 b).2.1 := by decide +kernel
theorem tyX6_ok : ∀ k, k < 10 → parseFieldDescriptor (TX6 k).2.2.1 = some (tyX6 k) := by decide +kernel
abbrev cX6_init : ByteArray := prog_1_method_1_code
def yX6_init : MethodName := ⟨RX6, "<init>", "()V"⟩
abbrev cX6_feed : ByteArray := prog_1_method_2_code
def yX6_feed : MethodName := ⟨RX6, "feed", "(I)I"⟩
abbrev cX6_clan : ByteArray := prog_1_method_3_code
def yX6_clan : MethodName := ⟨RX6, "clan", "()I"⟩
abbrev cX6_fault : ByteArray := prog_1_method_4_code
def yX6_fault : MethodName := ⟨RX6, "fault", "()I"⟩
abbrev cX6_told : ByteArray := prog_1_method_5_code
def yX6_told : MethodName := ⟨RX6, "told", "(I)I"⟩
abbrev cX6_person : ByteArray := prog_1_method_6_code
def yX6_person : MethodName := ⟨RX6, "person", "(II)I"⟩
abbrev cX6_paper : ByteArray := prog_1_method_7_code
def yX6_paper : MethodName := ⟨RX6, "paper", "(II)I"⟩
abbrev cX6_candidate : ByteArray := prog_1_method_8_code
def yX6_candidate : MethodName := ⟨RX6, "candidate", "(I)I"⟩
abbrev cX6_year : ByteArray := prog_1_method_9_code
def yX6_year : MethodName := ⟨RX6, "year", "(I)I"⟩
abbrev cX6_teach : ByteArray := prog_1_method_10_code
def yX6_teach : MethodName := ⟨RX6, "teach", "(II)I"⟩
abbrev cX6_sign : ByteArray := prog_1_method_11_code
def yX6_sign : MethodName := ⟨RX6, "sign", "(II)I"⟩
abbrev cX6_tearPaper : ByteArray := prog_1_method_12_code
def yX6_tearPaper : MethodName := ⟨RX6, "tearPaper", "()I"⟩
abbrev cX6_drift : ByteArray := prog_1_method_13_code
def yX6_drift : MethodName := ⟨RX6, "drift", "(I)I"⟩
abbrev cX6_undo : ByteArray := prog_1_method_14_code
def yX6_undo : MethodName := ⟨RX6, "undo", "()I"⟩
abbrev cX6_whose : ByteArray := prog_1_method_15_code
def yX6_whose : MethodName := ⟨RX6, "whose", "(I)I"⟩
abbrev cX6_odds : ByteArray := prog_1_method_16_code
def yX6_odds : MethodName := ⟨RX6, "odds", "(II)I"⟩
abbrev cX6_marks : ByteArray := prog_1_method_17_code
def yX6_marks : MethodName := ⟨RX6, "marks", "(I)I"⟩
abbrev cX6_tree : ByteArray := prog_1_method_18_code
def yX6_tree : MethodName := ⟨RX6, "tree", "(I)I"⟩
abbrev cX6_kin : ByteArray := prog_1_method_19_code
def yX6_kin : MethodName := ⟨RX6, "kin", "(I)I"⟩
abbrev cX6_most : ByteArray := prog_1_method_20_code
def yX6_most : MethodName := ⟨RX6, "most", "()I"⟩
abbrev cX6_clash : ByteArray := prog_1_method_21_code
def yX6_clash : MethodName := ⟨RX6, "clash", "()I"⟩
abbrev cX6_forged : ByteArray := prog_1_method_22_code
def yX6_forged : MethodName := ⟨RX6, "forged", "()I"⟩
abbrev cX6_makers : ByteArray := prog_1_method_23_code
def yX6_makers : MethodName := ⟨RX6, "makers", "(I)I"⟩
abbrev cX6_heir : ByteArray := prog_1_method_24_code
def yX6_heir : MethodName := ⟨RX6, "heir", "(I)I"⟩
abbrev cX6_sham : ByteArray := prog_1_method_25_code
def yX6_sham : MethodName := ⟨RX6, "sham", "(I)I"⟩
abbrev cX6_love : ByteArray := prog_1_method_26_code
def yX6_love : MethodName := ⟨RX6, "love", "(I)I"⟩
abbrev cX6_vote : ByteArray := prog_1_method_27_code
def yX6_vote : MethodName := ⟨RX6, "vote", "(I)I"⟩
abbrev cX6_turned : ByteArray := prog_1_method_28_code
def yX6_turned : MethodName := ⟨RX6, "turned", "(II)I"⟩
abbrev cX6_one : ByteArray := prog_1_method_29_code
def yX6_one : MethodName := ⟨RX6, "one", "(II)I"⟩
abbrev cX6_see : ByteArray := prog_1_method_30_code
def yX6_see : MethodName := ⟨RX6, "see", "(I)I"⟩
abbrev cX6_madeBy : ByteArray := prog_1_method_31_code
def yX6_madeBy : MethodName := ⟨RX6, "madeBy", "()I"⟩
abbrev cX6_lookAt : ByteArray := prog_1_method_32_code
def yX6_lookAt : MethodName := ⟨RX6, "lookAt", "()I"⟩
abbrev cX6_write : ByteArray := prog_1_method_33_code
def yX6_write : MethodName := ⟨RX6, "write", "(II)I"⟩
abbrev cX6_tear : ByteArray := prog_1_method_34_code
def yX6_tear : MethodName := ⟨RX6, "tear", "()I"⟩
abbrev cX6_judge : ByteArray := prog_1_method_35_code
def yX6_judge : MethodName := ⟨RX6, "judge", "()I"⟩
abbrev cX6_seed : ByteArray := prog_1_method_36_code
def yX6_seed : MethodName := ⟨RX6, "seed", "(I)I"⟩
abbrev cX6_keep : ByteArray := prog_1_method_37_code
def yX6_keep : MethodName := ⟨RX6, "keep", "(I)I"⟩
abbrev cX6_goBack : ByteArray := prog_1_method_38_code
def yX6_goBack : MethodName := ⟨RX6, "goBack", "(I)I"⟩
abbrev cX6_isPerson : ByteArray := prog_1_method_39_code
def yX6_isPerson : MethodName := ⟨RX6, "isPerson", "(I)Z"⟩
abbrev cX6_isPaper : ByteArray := prog_1_method_40_code
def yX6_isPaper : MethodName := ⟨RX6, "isPaper", "(I)Z"⟩
abbrev cX6_isCandidate : ByteArray := prog_1_method_41_code
def yX6_isCandidate : MethodName := ⟨RX6, "isCandidate", "(I)Z"⟩
abbrev cX6_isImage : ByteArray := prog_1_method_42_code
def yX6_isImage : MethodName := ⟨RX6, "isImage", "(I)Z"⟩
abbrev cX6_isMark : ByteArray := prog_1_method_43_code
def yX6_isMark : MethodName := ⟨RX6, "isMark", "(I)Z"⟩
abbrev cX6_part : ByteArray := prog_1_method_44_code
def yX6_part : MethodName := ⟨RX6, "part", "(II)I"⟩
abbrev cX6_apart : ByteArray := prog_1_method_45_code
def yX6_apart : MethodName := ⟨RX6, "apart", "(II)I"⟩
abbrev cX6_within : ByteArray := prog_1_method_46_code
def yX6_within : MethodName := ⟨RX6, "within", "(III)Z"⟩
abbrev cX6_passes : ByteArray := prog_1_method_47_code
def yX6_passes : MethodName := ⟨RX6, "passes", "(II)Z"⟩
abbrev cX6_passSet : ByteArray := prog_1_method_48_code
def yX6_passSet : MethodName := ⟨RX6, "passSet", "(I)I"⟩
abbrev cX6_passCount : ByteArray := prog_1_method_49_code
def yX6_passCount : MethodName := ⟨RX6, "passCount", "(I)I"⟩
abbrev cX6_weight : ByteArray := prog_1_method_50_code
def yX6_weight : MethodName := ⟨RX6, "weight", "(I)I"⟩
abbrev cX6_toldApart : ByteArray := prog_1_method_51_code
def yX6_toldApart : MethodName := ⟨RX6, "toldApart", "(LSignedCross$State;II)Z"⟩
abbrev cX6_allToldApart : ByteArray := prog_1_method_52_code
def yX6_allToldApart : MethodName := ⟨RX6, "allToldApart", "(I)Z"⟩
abbrev cX6_nearestTo : ByteArray := prog_1_method_53_code
def yX6_nearestTo : MethodName := ⟨RX6, "nearestTo", "(I)I"⟩
abbrev cX6_nextOfTree : ByteArray := prog_1_method_54_code
def yX6_nextOfTree : MethodName := ⟨RX6, "nextOfTree", "()I"⟩
abbrev cX6_joinGroups : ByteArray := prog_1_method_55_code
def yX6_joinGroups : MethodName := ⟨RX6, "joinGroups", "(II)V"⟩
abbrev cX6_choice : ByteArray := prog_1_method_56_code
def yX6_choice : MethodName := ⟨RX6, "choice", "(I)I"⟩
abbrev cX6_greatestAlike : ByteArray := prog_1_method_57_code
def yX6_greatestAlike : MethodName := ⟨RX6, "greatestAlike", "(II)I"⟩
abbrev cX6_passYears : ByteArray := prog_1_method_58_code
def yX6_passYears : MethodName := ⟨RX6, "passYears", "(LSignedCross$State;I)V"⟩
abbrev cX6_aged : ByteArray := prog_1_method_59_code
def yX6_aged : MethodName := ⟨RX6, "aged", "(IIZ)I"⟩
abbrev cX6_shakeOnce : ByteArray := prog_1_method_60_code
def yX6_shakeOnce : MethodName := ⟨RX6, "shakeOnce", "()V"⟩
abbrev cX6_draw : ByteArray := prog_1_method_61_code
def yX6_draw : MethodName := ⟨RX6, "draw", "(I)I"⟩
def RX7 : String := "SignedCrossModel"
def TX7 : u_T := fun k => match k with
  | 0 => ("SignedCrossModel", "w", "[I", true)
  | 1 => ("SignedCrossModel", "isKept", "[Z", true)
  | 2 => ("SignedCrossModel", "undoes", "I", false)
  | 3 => ("SignedCrossModel", "isClan", "Z", false)
  | 4 => ("SignedCrossModel", "grand", "I", false)
  | 5 => ("SignedCrossModel", "persons", "I", false)
  | 6 => ("SignedCrossModel", "slips", "[I", true)
  | 7 => ("SignedCrossModel", "drifts", "[I", true)
  | 8 => ("SignedCrossModel", "candidates", "I", false)
  | 9 => ("SignedCrossModel", "square", "[I", true)
  | 10 => ("SignedCrossModel", "text", "[I", true)
  | 11 => ("SignedCrossModel", "texted", "I", false)
  | 12 => ("SignedCrossModel", "at", "I", false)
  | 13 => ("SignedCrossModel", "start", "I", false)
  | 14 => ("SignedCrossModel", "number", "I", false)
  | 15 => ("SignedCrossModel", "faulty", "I", false)
  | 16 => ("SignedCrossModel", "faultAt", "I", false)
  | 17 => ("SignedCrossModel", "hasClan", "Z", false)
  | 18 => ("SignedCrossModel", "readGrand", "I", false)
  | 19 => ("SignedCrossModel", "readPersons", "I", false)
  | 20 => ("SignedCrossModel", "readPerson", "[I", true)
  | 21 => ("SignedCrossModel", "readPapers", "I", false)
  | 22 => ("SignedCrossModel", "readPaper", "[I", true)
  | 23 => ("SignedCrossModel", "readCandidates", "I", false)
  | 24 => ("SignedCrossModel", "readCandidate", "[I", true)
  | 25 => ("SignedCrossModel", "pairs", "[I", true)
  | 26 => ("SignedCrossModel", "lot", "[I", true)
  | 27 => ("SignedCrossModel", "seen", "I", false)
  | 28 => ("SignedCrossModel", "seenMark", "[I", true)
  | 29 => ("SignedCrossModel", "booked", "I", false)
  | 30 => ("SignedCrossModel", "bookOf", "[I", true)
  | _ => ("SignedCrossModel", "bookMark", "[I", true)
def tyX7 : Nat → FieldType := fun k => match k with
  | 0 => .array .int
  | 1 => .array .boolean
  | 2 => .int
  | 3 => .boolean
  | 4 => .int
  | 5 => .int
  | 6 => .array .int
  | 7 => .array .int
  | 8 => .int
  | 9 => .array .int
  | 10 => .array .int
  | 11 => .int
  | 12 => .int
  | 13 => .int
  | 14 => .int
  | 15 => .int
  | 16 => .int
  | 17 => .boolean
  | 18 => .int
  | 19 => .int
  | 20 => .array .int
  | 21 => .int
  | 22 => .array .int
  | 23 => .int
  | 24 => .array .int
  | 25 => .array .int
  | 26 => .array .int
  | 27 => .int
  | 28 => .array .int
  | 29 => .int
  | 30 => .array .int
  | _ => .array .int
abbrev wsX70 : List Cond := u_ws RX7 TX7 32
theorem nmX7 : ∀ a, a < 32 → ∀ b, b < 32 → a ≠ b → (TX7 a).2.1 ≠ (TX7 b).2.1 := by decide +kernel
theorem tyX7_ok : ∀ k, k < 32 → parseFieldDescriptor (TX7 k).2.2.1 = some (tyX7 k) := by decide +kernel
abbrev cX7_init : ByteArray := prog_9_method_1_code
def yX7_init : MethodName := ⟨RX7, "<init>", "()V"⟩
abbrev cX7_in : ByteArray := prog_9_method_3_code
def yX7_in : MethodName := ⟨RX7, "in", "(JJJ)Z"⟩
abbrev cX7_has : ByteArray := prog_9_method_4_code
def yX7_has : MethodName := ⟨RX7, "has", "(II)Z"⟩
abbrev cX7_ones : ByteArray := prog_9_method_5_code
def yX7_ones : MethodName := ⟨RX7, "ones", "(I)I"⟩
abbrev cX7_copy : ByteArray := prog_9_method_6_code
def yX7_copy : MethodName := ⟨RX7, "copy", "(II)V"⟩
abbrev cX7_isMark : ByteArray := prog_9_method_7_code
def yX7_isMark : MethodName := ⟨RX7, "isMark", "(I)Z"⟩
abbrev cX7_isPerson : ByteArray := prog_9_method_8_code
def yX7_isPerson : MethodName := ⟨RX7, "isPerson", "(I)Z"⟩
abbrev cX7_isPaper : ByteArray := prog_9_method_9_code
def yX7_isPaper : MethodName := ⟨RX7, "isPaper", "(I)Z"⟩
abbrev cX7_isCandidate : ByteArray := prog_9_method_10_code
def yX7_isCandidate : MethodName := ⟨RX7, "isCandidate", "(I)Z"⟩
abbrev cX7_feed : ByteArray := prog_9_method_11_code
def yX7_feed : MethodName := ⟨RX7, "feed", "(I)I"⟩
abbrev cX7_letterAt : ByteArray := prog_9_method_12_code
def yX7_letterAt : MethodName := ⟨RX7, "letterAt", "(I)I"⟩
abbrev cX7_here : ByteArray := prog_9_method_13_code
def yX7_here : MethodName := ⟨RX7, "here", "()I"⟩
abbrev cX7_fails : ByteArray := prog_9_method_14_code
def yX7_fails : MethodName := ⟨RX7, "fails", "(II)Z"⟩
abbrev cX7_takes : ByteArray := prog_9_method_15_code
def yX7_takes : MethodName := ⟨RX7, "takes", "(I)Z"⟩
abbrev cX7_takesNumber : ByteArray := prog_9_method_16_code
def yX7_takesNumber : MethodName := ⟨RX7, "takesNumber", "(I)Z"⟩
abbrev cX7_takesGrand : ByteArray := prog_9_method_17_code
def yX7_takesGrand : MethodName := ⟨RX7, "takesGrand", "()Z"⟩
abbrev cX7_takesPerson : ByteArray := prog_9_method_18_code
def yX7_takesPerson : MethodName := ⟨RX7, "takesPerson", "()Z"⟩
abbrev cX7_takesPaper : ByteArray := prog_9_method_19_code
def yX7_takesPaper : MethodName := ⟨RX7, "takesPaper", "()Z"⟩
abbrev cX7_takesCandidate : ByteArray := prog_9_method_20_code
def yX7_takesCandidate : MethodName := ⟨RX7, "takesCandidate", "()Z"⟩
abbrev cX7_takesClause : ByteArray := prog_9_method_21_code
def yX7_takesClause : MethodName := ⟨RX7, "takesClause", "()Z"⟩
abbrev cX7_clan : ByteArray := prog_9_method_22_code
def yX7_clan : MethodName := ⟨RX7, "clan", "()I"⟩
abbrev cX7_fault : ByteArray := prog_9_method_23_code
def yX7_fault : MethodName := ⟨RX7, "fault", "()I"⟩
abbrev cX7_told : ByteArray := prog_9_method_24_code
def yX7_told : MethodName := ⟨RX7, "told", "(I)I"⟩
abbrev cX7_partOf : ByteArray := prog_9_method_25_code
def yX7_partOf : MethodName := ⟨RX7, "partOf", "(II)I"⟩
abbrev cX7_off : ByteArray := prog_9_method_26_code
def yX7_off : MethodName := ⟨RX7, "off", "(II)I"⟩
abbrev cX7_apart : ByteArray := prog_9_method_27_code
def yX7_apart : MethodName := ⟨RX7, "apart", "(II)I"⟩
abbrev cX7_isNear : ByteArray := prog_9_method_28_code
def yX7_isNear : MethodName := ⟨RX7, "isNear", "(III)Z"⟩
abbrev cX7_passesFor : ByteArray := prog_9_method_29_code
def yX7_passesFor : MethodName := ⟨RX7, "passesFor", "(II)Z"⟩
abbrev cX7_person : ByteArray := prog_9_method_30_code
def yX7_person : MethodName := ⟨RX7, "person", "(II)I"⟩
abbrev cX7_paper : ByteArray := prog_9_method_31_code
def yX7_paper : MethodName := ⟨RX7, "paper", "(II)I"⟩
abbrev cX7_candidate : ByteArray := prog_9_method_32_code
def yX7_candidate : MethodName := ⟨RX7, "candidate", "(I)I"⟩
abbrev cX7_minds : ByteArray := prog_9_method_33_code
def yX7_minds : MethodName := ⟨RX7, "minds", "()V"⟩
abbrev cX7_undo : ByteArray := prog_9_method_34_code
def yX7_undo : MethodName := ⟨RX7, "undo", "()I"⟩
abbrev cX7_passesYear : ByteArray := prog_9_method_35_code
def yX7_passesYear : MethodName := ⟨RX7, "passesYear", "(I)V"⟩
abbrev cX7_year : ByteArray := prog_9_method_36_code
def yX7_year : MethodName := ⟨RX7, "year", "(I)I"⟩
abbrev cX7_teach : ByteArray := prog_9_method_37_code
def yX7_teach : MethodName := ⟨RX7, "teach", "(II)I"⟩
abbrev cX7_sign : ByteArray := prog_9_method_38_code
def yX7_sign : MethodName := ⟨RX7, "sign", "(II)I"⟩
abbrev cX7_tearPaper : ByteArray := prog_9_method_39_code
def yX7_tearPaper : MethodName := ⟨RX7, "tearPaper", "()I"⟩
abbrev cX7_draw : ByteArray := prog_9_method_40_code
def yX7_draw : MethodName := ⟨RX7, "draw", "(I)I"⟩
abbrev cX7_shaken : ByteArray := prog_9_method_41_code
def yX7_shaken : MethodName := ⟨RX7, "shaken", "(IIZ)I"⟩
abbrev cX7_drift : ByteArray := prog_9_method_42_code
def yX7_drift : MethodName := ⟨RX7, "drift", "(I)I"⟩
abbrev cX7_whoseIs : ByteArray := prog_9_method_43_code
def yX7_whoseIs : MethodName := ⟨RX7, "whoseIs", "(I)I"⟩
abbrev cX7_whose : ByteArray := prog_9_method_44_code
def yX7_whose : MethodName := ⟨RX7, "whose", "(I)I"⟩
abbrev cX7_marksOf : ByteArray := prog_9_method_45_code
def yX7_marksOf : MethodName := ⟨RX7, "marksOf", "(I)I"⟩
abbrev cX7_odds : ByteArray := prog_9_method_46_code
def yX7_odds : MethodName := ⟨RX7, "odds", "(II)I"⟩
abbrev cX7_marks : ByteArray := prog_9_method_47_code
def yX7_marks : MethodName := ⟨RX7, "marks", "(I)I"⟩
abbrev cX7_between : ByteArray := prog_9_method_48_code
def yX7_between : MethodName := ⟨RX7, "between", "(II)I"⟩
abbrev cX7_tree : ByteArray := prog_9_method_49_code
def yX7_tree : MethodName := ⟨RX7, "tree", "(I)I"⟩
abbrev cX7_kinOf : ByteArray := prog_9_method_50_code
def yX7_kinOf : MethodName := ⟨RX7, "kinOf", "(I)I"⟩
abbrev cX7_kin : ByteArray := prog_9_method_51_code
def yX7_kin : MethodName := ⟨RX7, "kin", "(I)I"⟩
abbrev cX7_areToldApart : ByteArray := prog_9_method_52_code
def yX7_areToldApart : MethodName := ⟨RX7, "areToldApart", "(III)Z"⟩
abbrev cX7_most : ByteArray := prog_9_method_53_code
def yX7_most : MethodName := ⟨RX7, "most", "()I"⟩
abbrev cX7_clash : ByteArray := prog_9_method_54_code
def yX7_clash : MethodName := ⟨RX7, "clash", "()I"⟩
abbrev cX7_forged : ByteArray := prog_9_method_55_code
def yX7_forged : MethodName := ⟨RX7, "forged", "()I"⟩
abbrev cX7_makers : ByteArray := prog_9_method_56_code
def yX7_makers : MethodName := ⟨RX7, "makers", "(I)I"⟩
abbrev cX7_heir : ByteArray := prog_9_method_57_code
def yX7_heir : MethodName := ⟨RX7, "heir", "(I)I"⟩
abbrev cX7_sham : ByteArray := prog_9_method_58_code
def yX7_sham : MethodName := ⟨RX7, "sham", "(I)I"⟩
abbrev cX7_love : ByteArray := prog_9_method_59_code
def yX7_love : MethodName := ⟨RX7, "love", "(I)I"⟩
abbrev cX7_voteOf : ByteArray := prog_9_method_60_code
def yX7_voteOf : MethodName := ⟨RX7, "voteOf", "(I)I"⟩
abbrev cX7_vote : ByteArray := prog_9_method_61_code
def yX7_vote : MethodName := ⟨RX7, "vote", "(I)I"⟩
abbrev cX7_turned : ByteArray := prog_9_method_62_code
def yX7_turned : MethodName := ⟨RX7, "turned", "(II)I"⟩
abbrev cX7_one : ByteArray := prog_9_method_63_code
def yX7_one : MethodName := ⟨RX7, "one", "(II)I"⟩
abbrev cX7_see : ByteArray := prog_9_method_64_code
def yX7_see : MethodName := ⟨RX7, "see", "(I)I"⟩
abbrev cX7_makersOfSeen : ByteArray := prog_9_method_65_code
def yX7_makersOfSeen : MethodName := ⟨RX7, "makersOfSeen", "()I"⟩
abbrev cX7_madeBy : ByteArray := prog_9_method_66_code
def yX7_madeBy : MethodName := ⟨RX7, "madeBy", "()I"⟩
abbrev cX7_lookAt : ByteArray := prog_9_method_67_code
def yX7_lookAt : MethodName := ⟨RX7, "lookAt", "()I"⟩
abbrev cX7_write : ByteArray := prog_9_method_68_code
def yX7_write : MethodName := ⟨RX7, "write", "(II)I"⟩
abbrev cX7_tear : ByteArray := prog_9_method_69_code
def yX7_tear : MethodName := ⟨RX7, "tear", "()I"⟩
abbrev cX7_judge : ByteArray := prog_9_method_70_code
def yX7_judge : MethodName := ⟨RX7, "judge", "()I"⟩
abbrev cX7_seed : ByteArray := prog_9_method_71_code
def yX7_seed : MethodName := ⟨RX7, "seed", "(I)I"⟩
abbrev cX7_keep : ByteArray := prog_9_method_72_code
def yX7_keep : MethodName := ⟨RX7, "keep", "(I)I"⟩
abbrev cX7_goBack : ByteArray := prog_9_method_73_code
def yX7_goBack : MethodName := ⟨RX7, "goBack", "(I)I"⟩
def RJ6 : String := "java/lang/Integer"
abbrev cJ6_bitCount_0f7a4 : ByteArray := prog_10_method_49_code
def yJ6_bitCount_0f7a4 : MethodName := ⟨RJ6, "bitCount", "(I)I"⟩
def RJ9 : String := "java/lang/Math"
abbrev cJ9_abs_0f7a4 : ByteArray := prog_11_method_59_code
def yJ9_abs_0f7a4 : MethodName := ⟨RJ9, "abs", "(I)I"⟩
abbrev cJ9_max_7cf53 : ByteArray := prog_11_method_65_code
def yJ9_max_7cf53 : MethodName := ⟨RJ9, "max", "(II)I"⟩
abbrev cJ9_min_7cf53 : ByteArray := prog_11_method_69_code
def yJ9_min_7cf53 : MethodName := ⟨RJ9, "min", "(II)I"⟩
def RJ10 : String := "java/lang/System"
def RL : String := "SignedCrossLaw"
abbrev cL_law : ByteArray := code
def yL_law : MethodName := ⟨RL, "law", "([I)Z"⟩
abbrev vwCl : List vw_C := [(RX0, TX0, 7), (RX1, TX1, 3), (RX2, TX2, 3), (RX3, TX3, 5), (RX4, TX4, 7), (RX5, TX5, 5), (RX6, TX6, 10), (RX7, TX7, 32)]
/-- the words of the tables that hold at any later state -/
def jt : List Cond := lw_tbl.filter goodWord
theorem inX0 : ∀ w ∈ wsX00, w ∈ jt := by decide +kernel
theorem inX1 : ∀ w ∈ wsX10, w ∈ jt := by decide +kernel
theorem inX2 : ∀ w ∈ wsX20, w ∈ jt := by decide +kernel
theorem inX3 : ∀ w ∈ wsX30, w ∈ jt := by decide +kernel
theorem inX4 : ∀ w ∈ wsX40, w ∈ jt := by decide +kernel
theorem inX5 : ∀ w ∈ wsX50, w ∈ jt := by decide +kernel
theorem inX6 : ∀ w ∈ wsX60, w ∈ jt := by decide +kernel
theorem inX7 : ∀ w ∈ wsX70, w ∈ jt := by decide +kernel
end
section
/-! THE TABLES: classes by number, constants, links, the methods (name, bytes, locals, answer, arguments, class, room), each with its words' places, by program -/
def jcn : Nat → String
  | 0 => RX0
  | 1 => RX1
  | 2 => RX2
  | 3 => RX3
  | 4 => RX4
  | 5 => RX5
  | 6 => RX6
  | 7 => RX7
  | 8 => RJ6
  | _ => RL
def jc (c : Int) : Int32 := match c with
  | .ofNat n => nI n
  | .negSucc n => - nI (n + 1)
def jcl (c : Int) : Int64 := match c with
  | .ofNat n => lN n
  | .negSucc n => - lN (n + 1)
def jat (i : Nat) (w : Cond) : Bool := decide (lw_tbl[i]? = some w) && goodWord w
theorem jat_in {i : Nat} {w : Cond} (h : jat i w = true) : w ∈ jt := by
  simp only [jat, Bool.and_eq_true, decide_eq_true_eq] at h
  exact List.mem_filter.mpr ⟨List.mem_of_getElem? h.1, h.2⟩
def jKi : List (Nat × Nat × Int × Nat) := [(6, 65, -1000000002, 283), (6, 69, -1000000004, 284), (6, 133, -1000000001, 388), (6, 162, -1000000003, 415), (6, 285, 65536, 470), (6, 271, 1000000, 506), (8, 265, 1431655765, 539), (8, 266, 858993459, 540), (8, 267, 252645135, 541), (7, 75, -1000000002, 754), (7, 79, -1000000004, 755), (7, 172, -1000000001, 818), (7, 186, -1000000003, 848), (7, 205, 65536, 893), (7, 227, 1000000, 932)]
def jKj : List (Nat × Nat × Int × Nat) := [(6, 279, 1103515245, 467), (6, 281, 12345, 468), (6, 283, 2147483648, 469), (6, 194, 1000000, 507), (7, 73, 255, 750), (7, 101, 48, 784), (7, 103, 57, 785), (7, 187, 60, 857), (7, 61, 999, 873), (7, 199, 1103515245, 890), (7, 201, 12345, 891), (7, 203, 2147483648, 892), (7, 222, 1000000, 919)]
def jFl : List (Nat × Nat × Nat × Nat × Nat) := [(0, 21, 0, 0, 85), (4, 53, 0, 0, 86), (6, 105, 0, 0, 87), (0, 25, 0, 1, 88), (4, 81, 0, 1, 89), (6, 108, 0, 1, 90), (0, 29, 0, 2, 91), (6, 102, 0, 2, 92), (4, 84, 0, 2, 93), (0, 9, 0, 3, 94), (4, 90, 0, 3, 95), (6, 137, 0, 3, 96), (0, 15, 0, 4, 97), (4, 93, 0, 4, 98), (6, 140, 0, 4, 99), (0, 32, 0, 5, 100), (6, 114, 0, 5, 101), (4, 102, 0, 5, 102), (0, 18, 0, 6, 103), (6, 159, 0, 6, 104), (4, 105, 0, 6, 105), (5, 9, 5, 0, 128), (4, 87, 5, 0, 129), (6, 134, 5, 0, 130), (5, 21, 5, 1, 131), (6, 111, 5, 1, 132), (4, 96, 5, 1, 133), (5, 15, 5, 2, 134), (6, 150, 5, 2, 135), (5, 18, 5, 3, 136), (6, 153, 5, 3, 137), (5, 25, 5, 4, 138), (6, 117, 5, 4, 139), (4, 9, 4, 0, 151), (4, 29, 4, 1, 152), (6, 66, 4, 1, 153), (4, 18, 4, 2, 154), (6, 79, 4, 2, 155), (4, 25, 4, 3, 156), (6, 86, 4, 3, 157), (4, 33, 4, 4, 158), (4, 36, 4, 5, 159), (6, 78, 4, 6, 160), (4, 112, 4, 6, 161), (1, 11, 1, 0, 190), (1, 26, 1, 1, 191), (6, 126, 1, 1, 192), (1, 18, 1, 2, 193), (6, 98, 2, 0, 210), (2, 10, 2, 1, 211), (6, 255, 2, 1, 212), (6, 258, 2, 2, 213), (3, 21, 3, 0, 227), (6, 120, 3, 0, 228), (3, 9, 3, 1, 229), (6, 234, 3, 1, 230), (3, 25, 3, 2, 231), (6, 123, 3, 2, 232), (3, 15, 3, 3, 233), (6, 246, 3, 3, 234), (3, 18, 3, 4, 235), (6, 249, 3, 4, 236), (6, 10, 6, 0, 248), (6, 19, 6, 1, 249), (6, 26, 6, 2, 250), (6, 30, 6, 3, 251), (6, 36, 6, 4, 252), (6, 42, 6, 5, 253), (6, 50, 6, 6, 254), (6, 54, 6, 7, 255), (6, 58, 6, 8, 256), (6, 62, 6, 9, 257), (7, 7, 7, 0, 648), (7, 13, 7, 1, 649), (7, 155, 7, 2, 650), (7, 57, 7, 3, 651), (7, 146, 7, 4, 652), (7, 67, 7, 5, 653), (7, 17, 7, 6, 654), (7, 20, 7, 7, 655), (7, 70, 7, 8, 656), (7, 23, 7, 9, 657), (7, 26, 7, 10, 658), (7, 76, 7, 11, 659), (7, 80, 7, 12, 660), (7, 87, 7, 13, 661), (7, 105, 7, 14, 662), (7, 90, 7, 15, 663), (7, 29, 7, 16, 664), (7, 108, 7, 17, 665), (7, 115, 7, 18, 666), (7, 118, 7, 19, 667), (7, 33, 7, 20, 668), (7, 121, 7, 21, 669), (7, 36, 7, 22, 670), (7, 124, 7, 23, 671), (7, 39, 7, 24, 672), (7, 42, 7, 25, 673), (7, 45, 7, 26, 674), (7, 149, 7, 27, 675), (7, 48, 7, 28, 676), (7, 152, 7, 29, 677), (7, 51, 7, 30, 678), (7, 54, 7, 31, 679)]
def jMl : List (Nat × Nat × Nat × Nat) := [(9, 13, 24, 279), (6, 70, 8, 285), (9, 18, 25, 289), (6, 74, 9, 293), (4, 39, 0, 297), (4, 42, 21, 301), (4, 43, 18, 305), (4, 49, 19, 309), (4, 46, 10, 313), (4, 57, 17, 317), (4, 61, 11, 321), (4, 74, 15, 325), (4, 108, 20, 329), (4, 78, 16, 332), (4, 65, 12, 336), (4, 68, 13, 340), (4, 99, 22, 344), (4, 71, 14, 348), (6, 82, 1, 352), (6, 89, 23, 359), (6, 92, 7, 364), (6, 95, 4, 368), (9, 23, 26, 372), (9, 27, 27, 376), (9, 31, 28, 380), (6, 129, 61, 384), (6, 143, 67, 389), (9, 36, 29, 395), (6, 147, 62, 399), (9, 40, 30, 403), (6, 156, 63, 407), (9, 44, 31, 411), (6, 163, 2, 416), (1, 22, 23, 420), (6, 166, 80, 424), (6, 272, 81, 428), (6, 268, 66, 432), (9, 48, 32, 439), (6, 170, 65, 443), (9, 52, 33, 446), (6, 173, 22, 450), (9, 56, 34, 451), (9, 60, 35, 455), (6, 177, 82, 459), (6, 276, 83, 463), (9, 64, 36, 471), (6, 180, 3, 475), (9, 68, 37, 479), (6, 183, 70, 483), (6, 187, 69, 487), (6, 264, 68, 491), (9, 72, 38, 494), (6, 191, 72, 498), (6, 196, 71, 502), (9, 76, 39, 508), (9, 80, 40, 512), (6, 199, 76, 516), (6, 202, 77, 520), (9, 84, 41, 524), (6, 205, 75, 528), (9, 88, 42, 532), (6, 208, 155, 536), (6, 213, 74, 542), (6, 216, 73, 546), (9, 92, 43, 550), (9, 96, 44, 554), (9, 100, 45, 558), (9, 104, 46, 562), (9, 108, 47, 566), (9, 112, 48, 570), (9, 116, 49, 574), (6, 228, 78, 578), (9, 120, 50, 582), (9, 124, 51, 586), (9, 128, 52, 590), (6, 231, 5, 594), (9, 132, 53, 598), (9, 136, 54, 602), (6, 237, 53, 606), (6, 240, 79, 607), (9, 140, 55, 611), (6, 243, 6, 615), (9, 144, 56, 619), (9, 148, 57, 623), (9, 152, 58, 627), (9, 156, 59, 631), (6, 252, 64, 635), (9, 160, 60, 638), (9, 17, 92, 746), (7, 63, 84, 751), (9, 22, 103, 756), (7, 93, 94, 760), (7, 83, 93, 764), (7, 143, 102, 768), (7, 97, 95, 772), (7, 127, 98, 776), (7, 111, 97, 780), (7, 131, 99, 786), (7, 134, 100, 790), (7, 137, 101, 794), (7, 140, 96, 798), (9, 26, 104, 802), (9, 30, 105, 806), (9, 35, 111, 810), (7, 169, 89, 814), (7, 173, 108, 819), (7, 158, 106, 822), (7, 162, 107, 825), (9, 39, 112, 828), (7, 176, 90, 832), (9, 43, 113, 836), (7, 179, 91, 840), (9, 67, 115, 844), (7, 182, 87, 849), (9, 47, 117, 853), (7, 189, 114, 858), (7, 192, 116, 862), (9, 51, 118, 866), (7, 196, 88, 870), (9, 55, 119, 874), (9, 59, 120, 878), (9, 63, 123, 882), (7, 206, 121, 886), (7, 209, 122, 894), (9, 71, 125, 897), (7, 216, 124, 901), (7, 213, 110, 905), (7, 165, 109, 909), (9, 75, 127, 912), (7, 219, 85, 916), (7, 224, 126, 920), (9, 79, 128, 924), (9, 83, 130, 928), (7, 228, 129, 933), (9, 87, 132, 937), (7, 231, 131, 941), (9, 91, 134, 945), (7, 234, 86, 949), (7, 237, 133, 952), (9, 95, 135, 956), (9, 99, 136, 960), (9, 103, 137, 964), (9, 107, 138, 968), (9, 111, 139, 972), (9, 115, 140, 976), (9, 119, 142, 980), (7, 240, 141, 984), (9, 123, 143, 988), (9, 127, 144, 992), (9, 131, 145, 996), (9, 135, 147, 1000), (7, 243, 146, 1004), (9, 139, 148, 1008), (9, 143, 149, 1012), (9, 147, 150, 1016), (9, 151, 151, 1020), (9, 155, 152, 1024), (9, 159, 153, 1028), (9, 163, 154, 1032)]
def jBl : List (Nat × Nat × Nat × Nat) := [(0, 35, 4, 356), (5, 28, 4, 363), (6, 261, 3, 392), (1, 29, 1, 421), (6, 220, 1, 435), (6, 225, 2, 436)]
abbrev jR : Type := MethodName × ByteArray × Nat × Option FieldType × Nat × Nat × Nat × Nat
def jMt : List jR := [(yX0_empty, cX0_empty, 1, none, 0, 0, 0, 0),
  (yX0_takeFrom, cX0_takeFrom, 2, none, 1, 0, 1, 26),
  (yX1_push, cX1_push, 2, none, 1, 1, 2, 47),
  (yX1_popInto, cX1_popInto, 2, none, 1, 1, 2, 47),
  (yX1_forgetAll, cX1_forgetAll, 1, none, 0, 1, 0, 0),
  (yX3_addSeen, cX3_addSeen, 2, none, 1, 3, 0, 0),
  (yX3_addEntry, cX3_addEntry, 3, none, 2, 3, 0, 0),
  (yX3_clearAll, cX3_clearAll, 1, none, 0, 3, 0, 0),
  (yX4_addLetter, cX4_addLetter, 2, none, 1, 4, 0, 0),
  (yX4_readAll, cX4_readAll, 2, (some .int), 0, 4, 5, 108),
  (yX4_readClause, cX4_readClause, 3, none, 0, 4, 4, 86),
  (yX4_readGrandfather, cX4_readGrandfather, 3, none, 1, 4, 3, 63),
  (yX4_readPerson, cX4_readPerson, 3, none, 1, 4, 3, 63),
  (yX4_readPaper, cX4_readPaper, 4, none, 1, 4, 3, 63),
  (yX4_readCandidate, cX4_readCandidate, 3, none, 1, 4, 3, 63),
  (yX4_readNumber, cX4_readNumber, 4, (some .int), 1, 4, 2, 40),
  (yX4_readEnd, cX4_readEnd, 1, none, 0, 4, 2, 40),
  (yX4_fail, cX4_fail, 3, none, 2, 4, 0, 0),
  (yX4_skipBlanks, cX4_skipBlanks, 1, none, 0, 4, 1, 20),
  (yX4_letterHere, cX4_letterHere, 1, (some .int), 0, 4, 0, 0),
  (yX4_isFigure, cX4_isFigure, 1, (some .boolean), 1, 99, 0, 0),
  (yX5_empty, cX5_empty, 1, none, 0, 5, 0, 0),
  (yX5_addPaper, cX5_addPaper, 3, none, 2, 5, 0, 0),
  (yX5_takeFrom, cX5_takeFrom, 2, none, 1, 5, 1, 26),
  (yX6_feed, cX6_feed, 2, (some .int), 1, 6, 1, 21),
  (yX6_clan, cX6_clan, 3, (some .int), 0, 6, 6, 129),
  (yX6_fault, cX6_fault, 1, (some .int), 0, 6, 0, 0),
  (yX6_told, cX6_told, 2, (some .int), 1, 6, 0, 0),
  (yX6_person, cX6_person, 3, (some .int), 2, 6, 2, 42),
  (yX6_paper, cX6_paper, 3, (some .int), 2, 6, 1, 21),
  (yX6_candidate, cX6_candidate, 2, (some .int), 1, 6, 1, 21),
  (yX6_year, cX6_year, 2, (some .int), 1, 6, 3, 72),
  (yX6_teach, cX6_teach, 4, (some .int), 2, 6, 3, 68),
  (yX6_sign, cX6_sign, 3, (some .int), 2, 6, 3, 68),
  (yX6_tearPaper, cX6_tearPaper, 2, (some .int), 0, 6, 3, 68),
  (yX6_drift, cX6_drift, 4, (some .int), 1, 6, 3, 68),
  (yX6_undo, cX6_undo, 1, (some .int), 0, 6, 3, 68),
  (yX6_whose, cX6_whose, 2, (some .int), 1, 6, 4, 88),
  (yX6_odds, cX6_odds, 6, (some .int), 2, 6, 3, 68),
  (yX6_marks, cX6_marks, 2, (some .int), 1, 6, 2, 46),
  (yX6_tree, cX6_tree, 5, (some .int), 1, 6, 3, 67),
  (yX6_kin, cX6_kin, 2, (some .int), 1, 6, 3, 67),
  (yX6_most, cX6_most, 6, (some .int), 0, 6, 4, 90),
  (yX6_clash, cX6_clash, 3, (some .int), 0, 6, 3, 66),
  (yX6_forged, cX6_forged, 3, (some .int), 0, 6, 3, 65),
  (yX6_makers, cX6_makers, 2, (some .int), 1, 6, 4, 88),
  (yX6_heir, cX6_heir, 6, (some .int), 1, 6, 3, 72),
  (yX6_sham, cX6_sham, 5, (some .int), 1, 6, 2, 42),
  (yX6_love, cX6_love, 5, (some .int), 1, 6, 3, 67),
  (yX6_vote, cX6_vote, 2, (some .int), 1, 6, 3, 67),
  (yX6_turned, cX6_turned, 6, (some .int), 2, 6, 3, 67),
  (yX6_one, cX6_one, 4, (some .int), 2, 6, 3, 72),
  (yX6_see, cX6_see, 2, (some .int), 1, 6, 1, 21),
  (yX6_madeBy, cX6_madeBy, 3, (some .int), 0, 6, 4, 88),
  (yX6_lookAt, cX6_lookAt, 6, (some .int), 0, 6, 5, 110),
  (yX6_write, cX6_write, 3, (some .int), 2, 6, 1, 22),
  (yX6_tear, cX6_tear, 2, (some .int), 0, 6, 1, 20),
  (yX6_judge, cX6_judge, 3, (some .int), 0, 6, 1, 21),
  (yX6_seed, cX6_seed, 3, (some .int), 1, 6, 0, 0),
  (yX6_keep, cX6_keep, 2, (some .int), 1, 6, 2, 47),
  (yX6_goBack, cX6_goBack, 2, (some .int), 1, 6, 2, 47),
  (yX6_isPerson, cX6_isPerson, 2, (some .boolean), 1, 6, 0, 0),
  (yX6_isPaper, cX6_isPaper, 2, (some .boolean), 1, 6, 0, 0),
  (yX6_isCandidate, cX6_isCandidate, 2, (some .boolean), 1, 6, 0, 0),
  (yX6_isImage, cX6_isImage, 1, (some .boolean), 1, 99, 0, 0),
  (yX6_isMark, cX6_isMark, 1, (some .boolean), 1, 99, 0, 0),
  (yX6_part, cX6_part, 2, (some .int), 2, 99, 0, 0),
  (yX6_apart, cX6_apart, 2, (some .int), 2, 99, 1, 21),
  (yX6_within, cX6_within, 3, (some .boolean), 3, 99, 1, 21),
  (yX6_passes, cX6_passes, 3, (some .boolean), 2, 6, 2, 43),
  (yX6_passSet, cX6_passSet, 4, (some .int), 1, 6, 3, 65),
  (yX6_passCount, cX6_passCount, 6, (some .int), 1, 6, 1, 21),
  (yX6_weight, cX6_weight, 3, (some .int), 1, 6, 2, 46),
  (yX6_toldApart, cX6_toldApart, 4, (some .boolean), 3, 6, 2, 43),
  (yX6_allToldApart, cX6_allToldApart, 5, (some .boolean), 1, 6, 3, 66),
  (yX6_nearestTo, cX6_nearestTo, 6, (some .int), 1, 6, 2, 42),
  (yX6_nextOfTree, cX6_nextOfTree, 6, (some .int), 0, 6, 2, 42),
  (yX6_joinGroups, cX6_joinGroups, 6, none, 2, 6, 0, 0),
  (yX6_choice, cX6_choice, 6, (some .int), 1, 6, 2, 42),
  (yX6_greatestAlike, cX6_greatestAlike, 7, (some .int), 2, 6, 1, 21),
  (yX6_passYears, cX6_passYears, 6, none, 2, 6, 2, 47),
  (yX6_aged, cX6_aged, 7, (some .int), 3, 6, 1, 21),
  (yX6_shakeOnce, cX6_shakeOnce, 7, none, 0, 6, 1, 21),
  (yX6_draw, cX6_draw, 2, (some .int), 1, 6, 0, 0),
  (yX7_in, cX7_in, 6, (some .boolean), 3, 99, 0, 0),
  (yX7_has, cX7_has, 2, (some .boolean), 2, 99, 0, 0),
  (yX7_ones, cX7_ones, 3, (some .int), 1, 99, 0, 0),
  (yX7_copy, cX7_copy, 4, none, 2, 7, 0, 0),
  (yX7_isMark, cX7_isMark, 1, (some .boolean), 1, 99, 1, 25),
  (yX7_isPerson, cX7_isPerson, 2, (some .boolean), 1, 7, 1, 25),
  (yX7_isPaper, cX7_isPaper, 2, (some .boolean), 1, 7, 1, 25),
  (yX7_isCandidate, cX7_isCandidate, 2, (some .boolean), 1, 7, 1, 25),
  (yX7_feed, cX7_feed, 2, (some .int), 1, 7, 1, 25),
  (yX7_letterAt, cX7_letterAt, 2, (some .int), 1, 7, 0, 0),
  (yX7_here, cX7_here, 1, (some .int), 0, 7, 1, 21),
  (yX7_fails, cX7_fails, 3, (some .boolean), 2, 7, 0, 0),
  (yX7_takes, cX7_takes, 2, (some .boolean), 1, 7, 2, 41),
  (yX7_takesNumber, cX7_takesNumber, 2, (some .boolean), 1, 7, 2, 41),
  (yX7_takesGrand, cX7_takesGrand, 1, (some .boolean), 0, 7, 3, 62),
  (yX7_takesPerson, cX7_takesPerson, 2, (some .boolean), 0, 7, 3, 62),
  (yX7_takesPaper, cX7_takesPaper, 2, (some .boolean), 0, 7, 3, 62),
  (yX7_takesCandidate, cX7_takesCandidate, 1, (some .boolean), 0, 7, 3, 62),
  (yX7_takesClause, cX7_takesClause, 5, (some .boolean), 0, 7, 4, 83),
  (yX7_clan, cX7_clan, 4, (some .int), 0, 7, 5, 107),
  (yX7_fault, cX7_fault, 1, (some .int), 0, 7, 0, 0),
  (yX7_told, cX7_told, 2, (some .int), 1, 7, 0, 0),
  (yX7_partOf, cX7_partOf, 2, (some .int), 2, 99, 0, 0),
  (yX7_off, cX7_off, 2, (some .int), 2, 99, 0, 0),
  (yX7_apart, cX7_apart, 4, (some .int), 2, 99, 1, 21),
  (yX7_isNear, cX7_isNear, 5, (some .boolean), 3, 99, 1, 21),
  (yX7_passesFor, cX7_passesFor, 3, (some .boolean), 2, 7, 2, 45),
  (yX7_person, cX7_person, 3, (some .int), 2, 7, 2, 46),
  (yX7_paper, cX7_paper, 3, (some .int), 2, 7, 2, 46),
  (yX7_candidate, cX7_candidate, 2, (some .int), 1, 7, 2, 46),
  (yX7_minds, cX7_minds, 2, none, 0, 7, 1, 23),
  (yX7_undo, cX7_undo, 2, (some .int), 0, 7, 1, 23),
  (yX7_passesYear, cX7_passesYear, 8, none, 1, 7, 1, 21),
  (yX7_year, cX7_year, 3, (some .int), 1, 7, 2, 48),
  (yX7_teach, cX7_teach, 4, (some .int), 2, 7, 2, 46),
  (yX7_sign, cX7_sign, 3, (some .int), 2, 7, 2, 46),
  (yX7_tearPaper, cX7_tearPaper, 1, (some .int), 0, 7, 2, 44),
  (yX7_draw, cX7_draw, 2, (some .int), 1, 7, 0, 0),
  (yX7_shaken, cX7_shaken, 5, (some .int), 3, 99, 1, 21),
  (yX7_drift, cX7_drift, 5, (some .int), 1, 7, 2, 45),
  (yX7_whoseIs, cX7_whoseIs, 4, (some .int), 1, 7, 3, 67),
  (yX7_whose, cX7_whose, 2, (some .int), 1, 7, 4, 90),
  (yX7_marksOf, cX7_marksOf, 7, (some .int), 1, 7, 1, 21),
  (yX7_odds, cX7_odds, 7, (some .int), 2, 7, 4, 90),
  (yX7_marks, cX7_marks, 2, (some .int), 1, 7, 2, 47),
  (yX7_between, cX7_between, 3, (some .int), 2, 7, 2, 44),
  (yX7_tree, cX7_tree, 10, (some .int), 1, 7, 3, 66),
  (yX7_kinOf, cX7_kinOf, 4, (some .int), 1, 7, 3, 66),
  (yX7_kin, cX7_kin, 2, (some .int), 1, 7, 4, 89),
  (yX7_areToldApart, cX7_areToldApart, 4, (some .boolean), 3, 7, 2, 45),
  (yX7_most, cX7_most, 6, (some .int), 0, 7, 3, 68),
  (yX7_clash, cX7_clash, 3, (some .int), 0, 7, 3, 68),
  (yX7_forged, cX7_forged, 3, (some .int), 0, 7, 3, 67),
  (yX7_makers, cX7_makers, 2, (some .int), 1, 7, 4, 90),
  (yX7_heir, cX7_heir, 4, (some .int), 1, 7, 2, 48),
  (yX7_sham, cX7_sham, 5, (some .int), 1, 7, 2, 46),
  (yX7_love, cX7_love, 5, (some .int), 1, 7, 4, 89),
  (yX7_voteOf, cX7_voteOf, 4, (some .int), 1, 7, 2, 44),
  (yX7_vote, cX7_vote, 2, (some .int), 1, 7, 3, 67),
  (yX7_turned, cX7_turned, 6, (some .int), 2, 7, 3, 67),
  (yX7_one, cX7_one, 4, (some .int), 2, 7, 3, 68),
  (yX7_see, cX7_see, 2, (some .int), 1, 7, 2, 45),
  (yX7_makersOfSeen, cX7_makersOfSeen, 3, (some .int), 0, 7, 4, 90),
  (yX7_madeBy, cX7_madeBy, 1, (some .int), 0, 7, 5, 112),
  (yX7_lookAt, cX7_lookAt, 9, (some .int), 0, 7, 5, 112),
  (yX7_write, cX7_write, 3, (some .int), 2, 7, 2, 46),
  (yX7_tear, cX7_tear, 2, (some .int), 0, 7, 0, 0),
  (yX7_judge, cX7_judge, 2, (some .int), 0, 7, 0, 0),
  (yX7_seed, cX7_seed, 3, (some .int), 1, 7, 0, 0),
  (yX7_keep, cX7_keep, 2, (some .int), 1, 7, 1, 25),
  (yX7_goBack, cX7_goBack, 2, (some .int), 1, 7, 1, 25),
  (yJ6_bitCount_0f7a4, cJ6_bitCount_0f7a4, 1, (some .int), 1, 99, 0, 0)]
def jMp : List (Nat × Nat × Nat × Nat) := [(300, 56, 298, 299), (355, 56, 353, 354), (419, 58, 417, 418), (478, 58, 476, 477), (371, 58, 369, 370), (597, 60, 595, 596), (618, 60, 616, 617), (367, 60, 365, 366), (288, 55, 286, 287), (296, 55, 294, 295), (316, 55, 315, 2), (324, 55, 323, 4), (339, 55, 338, 7), (343, 55, 342, 8), (351, 55, 350, 9), (328, 55, 327, 5), (335, 55, 334, 6), (320, 55, 319, 3), (308, 55, 307, 0), (312, 55, 311, 1), (331, 55, 330, 0), (304, 57, 302, 303), (347, 57, 345, 346), (362, 57, 360, 361), (282, 54, 280, 281), (292, 54, 290, 291), (375, 54, 373, 374), (379, 54, 377, 378), (383, 54, 381, 382), (398, 54, 396, 397), (406, 54, 404, 405), (414, 54, 412, 413), (442, 54, 440, 441), (449, 54, 447, 448), (454, 54, 452, 453), (458, 54, 456, 457), (474, 54, 472, 473), (482, 54, 480, 481), (497, 54, 495, 496), (511, 54, 509, 510), (515, 54, 513, 514), (527, 54, 525, 526), (535, 54, 533, 534), (553, 54, 551, 552), (557, 54, 555, 556), (561, 54, 559, 560), (565, 54, 563, 564), (569, 54, 567, 568), (573, 54, 571, 572), (577, 54, 575, 576), (585, 54, 583, 584), (589, 54, 587, 588), (593, 54, 591, 592), (601, 54, 599, 600), (605, 54, 603, 604), (614, 54, 612, 613), (622, 54, 620, 621), (626, 54, 624, 625), (630, 54, 628, 629), (634, 54, 632, 633), (641, 54, 639, 640), (387, 54, 386, 10), (402, 54, 401, 11), (410, 54, 409, 12), (637, 54, 636, 0), (445, 54, 444, 0), (434, 54, 433, 0), (391, 54, 390, 0), (493, 54, 492, 0), (490, 54, 489, 18), (486, 54, 485, 17), (505, 54, 504, 20), (501, 54, 500, 19), (549, 54, 548, 25), (545, 54, 544, 24), (531, 54, 530, 23), (519, 54, 518, 21), (523, 54, 522, 22), (581, 54, 580, 26), (610, 54, 609, 27), (427, 54, 426, 13), (431, 54, 430, 14), (462, 54, 461, 15), (466, 54, 465, 16), (753, 61, 752, 0), (918, 61, 917, 0), (951, 61, 950, 0), (852, 61, 851, 41), (872, 61, 871, 0), (817, 61, 816, 38), (835, 61, 834, 39), (843, 61, 842, 40), (749, 61, 747, 748), (767, 61, 766, 29), (763, 61, 762, 28), (775, 61, 774, 31), (801, 61, 800, 37), (783, 61, 782, 33), (779, 61, 778, 32), (789, 61, 788, 34), (793, 61, 792, 35), (797, 61, 796, 36), (771, 61, 770, 30), (759, 61, 757, 758), (805, 61, 803, 804), (809, 61, 807, 808), (824, 61, 823, 0), (827, 61, 826, 0), (821, 61, 820, 0), (911, 61, 910, 0), (908, 61, 907, 46), (813, 61, 811, 812), (831, 61, 829, 830), (839, 61, 837, 838), (861, 61, 860, 42), (847, 61, 845, 846), (865, 61, 864, 43), (856, 61, 854, 855), (869, 61, 867, 868), (877, 61, 875, 876), (881, 61, 879, 880), (889, 61, 888, 44), (896, 61, 895, 0), (885, 61, 883, 884), (904, 61, 903, 45), (900, 61, 898, 899), (923, 61, 922, 47), (915, 61, 913, 914), (927, 61, 925, 926), (936, 61, 935, 48), (931, 61, 929, 930), (944, 61, 943, 49), (940, 61, 938, 939), (955, 61, 954, 50), (948, 61, 946, 947), (959, 61, 957, 958), (963, 61, 961, 962), (967, 61, 965, 966), (971, 61, 969, 970), (975, 61, 973, 974), (979, 61, 977, 978), (987, 61, 986, 51), (983, 61, 981, 982), (991, 61, 989, 990), (995, 61, 993, 994), (999, 61, 997, 998), (1007, 61, 1006, 52), (1003, 61, 1001, 1002), (1011, 61, 1009, 1010), (1015, 61, 1013, 1014), (1019, 61, 1017, 1018), (1023, 61, 1021, 1022), (1027, 61, 1025, 1026), (1031, 61, 1029, 1030), (1035, 61, 1033, 1034), (538, 64, 537, 0)]
theorem jKi_ok : jKi.all (fun q => jat q.2.2.2 (Cond.constant (jcn q.1) q.2.1 (jc q.2.2.1))) = true := by decide +kernel
theorem jKj_ok : jKj.all (fun q => jat q.2.2.2 (Cond.constantLong (jcn q.1) q.2.1 (jcl q.2.2.1))) = true := by decide +kernel
def jFok (q : Nat × Nat × Nat × Nat × Nat) : Bool := match vwCl[q.2.2.1]? with
  | some r => decide (q.2.2.2.1 < r.2.2) && jat q.2.2.2.2 (Cond.fieldLink (jcn q.1) q.2.1 (r.2.1 q.2.2.2.1).1 (r.2.1 q.2.2.2.1).2.1 (r.2.1 q.2.2.2.1).2.2.1)
  | none => false
theorem jFl_ok : jFl.all jFok = true := by decide +kernel
def jMok (q : Nat × Nat × Nat × Nat) : Bool := match jMt[q.2.2.1]? with
  | some r => jat q.2.2.2 (Cond.methodLink (jcn q.1) q.2.1 r.1)
  | none => false
theorem jMl_ok : jMl.all jMok = true := by decide +kernel
def jbn : Nat → MethodName
  | 1 => Lib.Math.min.name
  | 2 => Lib.Math.max.name
  | 3 => Lib.Math.abs.name
  | _ => arraycopyName
theorem jBl_ok : jBl.all (fun q => jat q.2.2.2 (Cond.methodLink (jcn q.1) q.2.1 (jbn q.2.2.1))) = true := by decide +kernel
def jRok (r : jR) (z : Nat × Nat × Nat × Nat) : Bool := jat z.1 (Cond.code r.1 r.2.1 r.2.2.1 r.2.2.2.1) && (jat z.2.1 (Cond.initialized r.1.cls) && (decide (r.1.cls ≠ "java/lang/invoke/MethodHandle" ∧ r.1.cls ≠ "java/lang/invoke/VarHandle") && (decide ((parseMethodDescriptor r.1.desc).map (fun d => d.parameters.length) = some r.2.2.2.2.1) && (plainName r.1.cls && (match vwCl[r.2.2.2.2.2.1]? with
  | some q => decide (q.1 = r.1.cls) && (jat z.2.2.1 (Cond.instanceMethod r.1) && jat z.2.2.2 (Cond.selects r.1.cls r.1 r.1))
  | none => jat z.2.2.1 (Cond.static r.1))))))
end
section
theorem jMt_ok_0 : ((((jMt.drop 0).take 20).zip ((jMp.drop 0).take 20)).all (fun q => jRok q.1 q.2)) = true := by decide +kernel
end
section
theorem jMt_ok_1 : ((((jMt.drop 20).take 20).zip ((jMp.drop 20).take 20)).all (fun q => jRok q.1 q.2)) = true := by decide +kernel
end
section
theorem jMt_ok_2 : ((((jMt.drop 40).take 20).zip ((jMp.drop 40).take 20)).all (fun q => jRok q.1 q.2)) = true := by decide +kernel
end
section
theorem jMt_ok_3 : ((((jMt.drop 60).take 20).zip ((jMp.drop 60).take 20)).all (fun q => jRok q.1 q.2)) = true := by decide +kernel
end
section
theorem jMt_ok_4 : ((((jMt.drop 80).take 20).zip ((jMp.drop 80).take 20)).all (fun q => jRok q.1 q.2)) = true := by decide +kernel
end
section
theorem jMt_ok_5 : ((((jMt.drop 100).take 20).zip ((jMp.drop 100).take 20)).all (fun q => jRok q.1 q.2)) = true := by decide +kernel
end
section
theorem jMt_ok_6 : ((((jMt.drop 120).take 20).zip ((jMp.drop 120).take 20)).all (fun q => jRok q.1 q.2)) = true := by decide +kernel
end
section
theorem jMt_ok_7 : ((((jMt.drop 140).take 20).zip ((jMp.drop 140).take 20)).all (fun q => jRok q.1 q.2)) = true := by decide +kernel
end
