/-! THE TABLES: classes by number, constants, links, the methods (name, bytes, locals, answer, arguments, class, room), each with its words' places, by program -/
def jcn : Nat → String
  | 0 => RX0
  | 1 => RX1
  | 2 => RX2
  | 3 => RX3
  | 4 => RX4
  | 5 => RX5
  | 6 => RX6
  | 7 => RX7
  | 8 => RJ6
  | _ => RL
def jc (c : Int) : Int32 := match c with
  | .ofNat n => nI n
  | .negSucc n => - nI (n + 1)
def jcl (c : Int) : Int64 := match c with
  | .ofNat n => lN n
  | .negSucc n => - lN (n + 1)
def jat (i : Nat) (w : Cond) : Bool := decide (lw_tbl[i]? = some w) && goodWord w
theorem jat_in {i : Nat} {w : Cond} (h : jat i w = true) : w ∈ jt := by
  simp only [jat, Bool.and_eq_true, decide_eq_true_eq] at h
  exact List.mem_filter.mpr ⟨List.mem_of_getElem? h.1, h.2⟩
def jKi : List (Nat × Nat × Int × Nat) := [(6, 65, -1000000002, 283), (6, 69, -1000000004, 284), (6, 133, -1000000001, 388), (6, 162, -1000000003, 415), (6, 285, 65536, 470), (6, 271, 1000000, 506), (8, 265, 1431655765, 539), (8, 266, 858993459, 540), (8, 267, 252645135, 541), (7, 75, -1000000002, 754), (7, 79, -1000000004, 755), (7, 172, -1000000001, 818), (7, 186, -1000000003, 848), (7, 205, 65536, 893), (7, 227, 1000000, 932)]
def jKj : List (Nat × Nat × Int × Nat) := [(6, 279, 1103515245, 467), (6, 281, 12345, 468), (6, 283, 2147483648, 469), (6, 194, 1000000, 507), (7, 73, 255, 750), (7, 101, 48, 784), (7, 103, 57, 785), (7, 187, 60, 857), (7, 61, 999, 873), (7, 199, 1103515245, 890), (7, 201, 12345, 891), (7, 203, 2147483648, 892), (7, 222, 1000000, 919)]
def jFl : List (Nat × Nat × Nat × Nat × Nat) := [(0, 21, 0, 0, 85), (4, 53, 0, 0, 86), (6, 105, 0, 0, 87), (0, 25, 0, 1, 88), (4, 81, 0, 1, 89), (6, 108, 0, 1, 90), (0, 29, 0, 2, 91), (6, 102, 0, 2, 92), (4, 84, 0, 2, 93), (0, 9, 0, 3, 94), (4, 90, 0, 3, 95), (6, 137, 0, 3, 96), (0, 15, 0, 4, 97), (4, 93, 0, 4, 98), (6, 140, 0, 4, 99), (0, 32, 0, 5, 100), (6, 114, 0, 5, 101), (4, 102, 0, 5, 102), (0, 18, 0, 6, 103), (6, 159, 0, 6, 104), (4, 105, 0, 6, 105), (5, 9, 5, 0, 128), (4, 87, 5, 0, 129), (6, 134, 5, 0, 130), (5, 21, 5, 1, 131), (6, 111, 5, 1, 132), (4, 96, 5, 1, 133), (5, 15, 5, 2, 134), (6, 150, 5, 2, 135), (5, 18, 5, 3, 136), (6, 153, 5, 3, 137), (5, 25, 5, 4, 138), (6, 117, 5, 4, 139), (4, 9, 4, 0, 151), (4, 29, 4, 1, 152), (6, 66, 4, 1, 153), (4, 18, 4, 2, 154), (6, 79, 4, 2, 155), (4, 25, 4, 3, 156), (6, 86, 4, 3, 157), (4, 33, 4, 4, 158), (4, 36, 4, 5, 159), (6, 78, 4, 6, 160), (4, 112, 4, 6, 161), (1, 11, 1, 0, 190), (1, 26, 1, 1, 191), (6, 126, 1, 1, 192), (1, 18, 1, 2, 193), (6, 98, 2, 0, 210), (2, 10, 2, 1, 211), (6, 255, 2, 1, 212), (6, 258, 2, 2, 213), (3, 21, 3, 0, 227), (6, 120, 3, 0, 228), (3, 9, 3, 1, 229), (6, 234, 3, 1, 230), (3, 25, 3, 2, 231), (6, 123, 3, 2, 232), (3, 15, 3, 3, 233), (6, 246, 3, 3, 234), (3, 18, 3, 4, 235), (6, 249, 3, 4, 236), (6, 10, 6, 0, 248), (6, 19, 6, 1, 249), (6, 26, 6, 2, 250), (6, 30, 6, 3, 251), (6, 36, 6, 4, 252), (6, 42, 6, 5, 253), (6, 50, 6, 6, 254), (6, 54, 6, 7, 255), (6, 58, 6, 8, 256), (6, 62, 6, 9, 257), (7, 7, 7, 0, 648), (7, 13, 7, 1, 649), (7, 155, 7, 2, 650), (7, 57, 7, 3, 651), (7, 146, 7, 4, 652), (7, 67, 7, 5, 653), (7, 17, 7, 6, 654), (7, 20, 7, 7, 655), (7, 70, 7, 8, 656), (7, 23, 7, 9, 657), (7, 26, 7, 10, 658), (7, 76, 7, 11, 659), (7, 80, 7, 12, 660), (7, 87, 7, 13, 661), (7, 105, 7, 14, 662), (7, 90, 7, 15, 663), (7, 29, 7, 16, 664), (7, 108, 7, 17, 665), (7, 115, 7, 18, 666), (7, 118, 7, 19, 667), (7, 33, 7, 20, 668), (7, 121, 7, 21, 669), (7, 36, 7, 22, 670), (7, 124, 7, 23, 671), (7, 39, 7, 24, 672), (7, 42, 7, 25, 673), (7, 45, 7, 26, 674), (7, 149, 7, 27, 675), (7, 48, 7, 28, 676), (7, 152, 7, 29, 677), (7, 51, 7, 30, 678), (7, 54, 7, 31, 679)]
def jMl : List (Nat × Nat × Nat × Nat) := [(9, 13, 24, 279), (6, 70, 8, 285), (9, 18, 25, 289), (6, 74, 9, 293), (4, 39, 0, 297), (4, 42, 21, 301), (4, 43, 18, 305), (4, 49, 19, 309), (4, 46, 10, 313), (4, 57, 17, 317), (4, 61, 11, 321), (4, 74, 15, 325), (4, 108, 20, 329), (4, 78, 16, 332), (4, 65, 12, 336), (4, 68, 13, 340), (4, 99, 22, 344), (4, 71, 14, 348), (6, 82, 1, 352), (6, 89, 23, 359), (6, 92, 7, 364), (6, 95, 4, 368), (9, 23, 26, 372), (9, 27, 27, 376), (9, 31, 28, 380), (6, 129, 61, 384), (6, 143, 67, 389), (9, 36, 29, 395), (6, 147, 62, 399), (9, 40, 30, 403), (6, 156, 63, 407), (9, 44, 31, 411), (6, 163, 2, 416), (1, 22, 23, 420), (6, 166, 80, 424), (6, 272, 81, 428), (6, 268, 66, 432), (9, 48, 32, 439), (6, 170, 65, 443), (9, 52, 33, 446), (6, 173, 22, 450), (9, 56, 34, 451), (9, 60, 35, 455), (6, 177, 82, 459), (6, 276, 83, 463), (9, 64, 36, 471), (6, 180, 3, 475), (9, 68, 37, 479), (6, 183, 70, 483), (6, 187, 69, 487), (6, 264, 68, 491), (9, 72, 38, 494), (6, 191, 72, 498), (6, 196, 71, 502), (9, 76, 39, 508), (9, 80, 40, 512), (6, 199, 76, 516), (6, 202, 77, 520), (9, 84, 41, 524), (6, 205, 75, 528), (9, 88, 42, 532), (6, 208, 155, 536), (6, 213, 74, 542), (6, 216, 73, 546), (9, 92, 43, 550), (9, 96, 44, 554), (9, 100, 45, 558), (9, 104, 46, 562), (9, 108, 47, 566), (9, 112, 48, 570), (9, 116, 49, 574), (6, 228, 78, 578), (9, 120, 50, 582), (9, 124, 51, 586), (9, 128, 52, 590), (6, 231, 5, 594), (9, 132, 53, 598), (9, 136, 54, 602), (6, 237, 53, 606), (6, 240, 79, 607), (9, 140, 55, 611), (6, 243, 6, 615), (9, 144, 56, 619), (9, 148, 57, 623), (9, 152, 58, 627), (9, 156, 59, 631), (6, 252, 64, 635), (9, 160, 60, 638), (9, 17, 92, 746), (7, 63, 84, 751), (9, 22, 103, 756), (7, 93, 94, 760), (7, 83, 93, 764), (7, 143, 102, 768), (7, 97, 95, 772), (7, 127, 98, 776), (7, 111, 97, 780), (7, 131, 99, 786), (7, 134, 100, 790), (7, 137, 101, 794), (7, 140, 96, 798), (9, 26, 104, 802), (9, 30, 105, 806), (9, 35, 111, 810), (7, 169, 89, 814), (7, 173, 108, 819), (7, 158, 106, 822), (7, 162, 107, 825), (9, 39, 112, 828), (7, 176, 90, 832), (9, 43, 113, 836), (7, 179, 91, 840), (9, 67, 115, 844), (7, 182, 87, 849), (9, 47, 117, 853), (7, 189, 114, 858), (7, 192, 116, 862), (9, 51, 118, 866), (7, 196, 88, 870), (9, 55, 119, 874), (9, 59, 120, 878), (9, 63, 123, 882), (7, 206, 121, 886), (7, 209, 122, 894), (9, 71, 125, 897), (7, 216, 124, 901), (7, 213, 110, 905), (7, 165, 109, 909), (9, 75, 127, 912), (7, 219, 85, 916), (7, 224, 126, 920), (9, 79, 128, 924), (9, 83, 130, 928), (7, 228, 129, 933), (9, 87, 132, 937), (7, 231, 131, 941), (9, 91, 134, 945), (7, 234, 86, 949), (7, 237, 133, 952), (9, 95, 135, 956), (9, 99, 136, 960), (9, 103, 137, 964), (9, 107, 138, 968), (9, 111, 139, 972), (9, 115, 140, 976), (9, 119, 142, 980), (7, 240, 141, 984), (9, 123, 143, 988), (9, 127, 144, 992), (9, 131, 145, 996), (9, 135, 147, 1000), (7, 243, 146, 1004), (9, 139, 148, 1008), (9, 143, 149, 1012), (9, 147, 150, 1016), (9, 151, 151, 1020), (9, 155, 152, 1024), (9, 159, 153, 1028), (9, 163, 154, 1032)]
def jBl : List (Nat × Nat × Nat × Nat) := [(0, 35, 4, 356), (5, 28, 4, 363), (6, 261, 3, 392), (1, 29, 1, 421), (6, 220, 1, 435), (6, 225, 2, 436)]
abbrev jR : Type := MethodName × ByteArray × Nat × Option FieldType × Nat × Nat × Nat × Nat
def jMt : List jR := [(yX0_empty, cX0_empty, 1, none, 0, 0, 0, 0),
  (yX0_takeFrom, cX0_takeFrom, 2, none, 1, 0, 1, 26),
  (yX1_push, cX1_push, 2, none, 1, 1, 2, 47),
  (yX1_popInto, cX1_popInto, 2, none, 1, 1, 2, 47),
  (yX1_forgetAll, cX1_forgetAll, 1, none, 0, 1, 0, 0),
  (yX3_addSeen, cX3_addSeen, 2, none, 1, 3, 0, 0),
  (yX3_addEntry, cX3_addEntry, 3, none, 2, 3, 0, 0),
  (yX3_clearAll, cX3_clearAll, 1, none, 0, 3, 0, 0),
  (yX4_addLetter, cX4_addLetter, 2, none, 1, 4, 0, 0),
  (yX4_readAll, cX4_readAll, 2, (some .int), 0, 4, 5, 108),
  (yX4_readClause, cX4_readClause, 3, none, 0, 4, 4, 86),
  (yX4_readGrandfather, cX4_readGrandfather, 3, none, 1, 4, 3, 63),
  (yX4_readPerson, cX4_readPerson, 3, none, 1, 4, 3, 63),
  (yX4_readPaper, cX4_readPaper, 4, none, 1, 4, 3, 63),
  (yX4_readCandidate, cX4_readCandidate, 3, none, 1, 4, 3, 63),
  (yX4_readNumber, cX4_readNumber, 4, (some .int), 1, 4, 2, 40),
  (yX4_readEnd, cX4_readEnd, 1, none, 0, 4, 2, 40),
  (yX4_fail, cX4_fail, 3, none, 2, 4, 0, 0),
  (yX4_skipBlanks, cX4_skipBlanks, 1, none, 0, 4, 1, 20),
  (yX4_letterHere, cX4_letterHere, 1, (some .int), 0, 4, 0, 0),
  (yX4_isFigure, cX4_isFigure, 1, (some .boolean), 1, 99, 0, 0),
  (yX5_empty, cX5_empty, 1, none, 0, 5, 0, 0),
  (yX5_addPaper, cX5_addPaper, 3, none, 2, 5, 0, 0),
  (yX5_takeFrom, cX5_takeFrom, 2, none, 1, 5, 1, 26),
  (yX6_feed, cX6_feed, 2, (some .int), 1, 6, 1, 21),
  (yX6_clan, cX6_clan, 3, (some .int), 0, 6, 6, 129),
  (yX6_fault, cX6_fault, 1, (some .int), 0, 6, 0, 0),
  (yX6_told, cX6_told, 2, (some .int), 1, 6, 0, 0),
  (yX6_person, cX6_person, 3, (some .int), 2, 6, 2, 42),
  (yX6_paper, cX6_paper, 3, (some .int), 2, 6, 1, 21),
  (yX6_candidate, cX6_candidate, 2, (some .int), 1, 6, 1, 21),
  (yX6_year, cX6_year, 2, (some .int), 1, 6, 3, 72),
  (yX6_teach, cX6_teach, 4, (some .int), 2, 6, 3, 68),
  (yX6_sign, cX6_sign, 3, (some .int), 2, 6, 3, 68),
  (yX6_tearPaper, cX6_tearPaper, 2, (some .int), 0, 6, 3, 68),
  (yX6_drift, cX6_drift, 4, (some .int), 1, 6, 3, 68),
  (yX6_undo, cX6_undo, 1, (some .int), 0, 6, 3, 68),
  (yX6_whose, cX6_whose, 2, (some .int), 1, 6, 4, 88),
  (yX6_odds, cX6_odds, 6, (some .int), 2, 6, 3, 68),
  (yX6_marks, cX6_marks, 2, (some .int), 1, 6, 2, 46),
  (yX6_tree, cX6_tree, 5, (some .int), 1, 6, 3, 67),
  (yX6_kin, cX6_kin, 2, (some .int), 1, 6, 3, 67),
  (yX6_most, cX6_most, 6, (some .int), 0, 6, 4, 90),
  (yX6_clash, cX6_clash, 3, (some .int), 0, 6, 3, 66),
  (yX6_forged, cX6_forged, 3, (some .int), 0, 6, 3, 65),
  (yX6_makers, cX6_makers, 2, (some .int), 1, 6, 4, 88),
  (yX6_heir, cX6_heir, 6, (some .int), 1, 6, 3, 72),
  (yX6_sham, cX6_sham, 5, (some .int), 1, 6, 2, 42),
  (yX6_love, cX6_love, 5, (some .int), 1, 6, 3, 67),
  (yX6_vote, cX6_vote, 2, (some .int), 1, 6, 3, 67),
  (yX6_turned, cX6_turned, 6, (some .int), 2, 6, 3, 67),
  (yX6_one, cX6_one, 4, (some .int), 2, 6, 3, 72),
  (yX6_see, cX6_see, 2, (some .int), 1, 6, 1, 21),
  (yX6_madeBy, cX6_madeBy, 3, (some .int), 0, 6, 4, 88),
  (yX6_lookAt, cX6_lookAt, 6, (some .int), 0, 6, 5, 110),
  (yX6_write, cX6_write, 3, (some .int), 2, 6, 1, 22),
  (yX6_tear, cX6_tear, 2, (some .int), 0, 6, 1, 20),
  (yX6_judge, cX6_judge, 3, (some .int), 0, 6, 1, 21),
  (yX6_seed, cX6_seed, 3, (some .int), 1, 6, 0, 0),
  (yX6_keep, cX6_keep, 2, (some .int), 1, 6, 2, 47),
  (yX6_goBack, cX6_goBack, 2, (some .int), 1, 6, 2, 47),
  (yX6_isPerson, cX6_isPerson, 2, (some .boolean), 1, 6, 0, 0),
  (yX6_isPaper, cX6_isPaper, 2, (some .boolean), 1, 6, 0, 0),
  (yX6_isCandidate, cX6_isCandidate, 2, (some .boolean), 1, 6, 0, 0),
  (yX6_isImage, cX6_isImage, 1, (some .boolean), 1, 99, 0, 0),
  (yX6_isMark, cX6_isMark, 1, (some .boolean), 1, 99, 0, 0),
  (yX6_part, cX6_part, 2, (some .int), 2, 99, 0, 0),
  (yX6_apart, cX6_apart, 2, (some .int), 2, 99, 1, 21),
  (yX6_within, cX6_within, 3, (some .boolean), 3, 99, 1, 21),
  (yX6_passes, cX6_passes, 3, (some .boolean), 2, 6, 2, 43),
  (yX6_passSet, cX6_passSet, 4, (some .int), 1, 6, 3, 65),
  (yX6_passCount, cX6_passCount, 6, (some .int), 1, 6, 1, 21),
  (yX6_weight, cX6_weight, 3, (some .int), 1, 6, 2, 46),
  (yX6_toldApart, cX6_toldApart, 4, (some .boolean), 3, 6, 2, 43),
  (yX6_allToldApart, cX6_allToldApart, 5, (some .boolean), 1, 6, 3, 66),
  (yX6_nearestTo, cX6_nearestTo, 6, (some .int), 1, 6, 2, 42),
  (yX6_nextOfTree, cX6_nextOfTree, 6, (some .int), 0, 6, 2, 42),
  (yX6_joinGroups, cX6_joinGroups, 6, none, 2, 6, 0, 0),
  (yX6_choice, cX6_choice, 6, (some .int), 1, 6, 2, 42),
  (yX6_greatestAlike, cX6_greatestAlike, 7, (some .int), 2, 6, 1, 21),
  (yX6_passYears, cX6_passYears, 6, none, 2, 6, 2, 47),
  (yX6_aged, cX6_aged, 7, (some .int), 3, 6, 1, 21),
  (yX6_shakeOnce, cX6_shakeOnce, 7, none, 0, 6, 1, 21),
  (yX6_draw, cX6_draw, 2, (some .int), 1, 6, 0, 0),
  (yX7_in, cX7_in, 6, (some .boolean), 3, 99, 0, 0),
  (yX7_has, cX7_has, 2, (some .boolean), 2, 99, 0, 0),
  (yX7_ones, cX7_ones, 3, (some .int), 1, 99, 0, 0),
  (yX7_copy, cX7_copy, 4, none, 2, 7, 0, 0),
  (yX7_isMark, cX7_isMark, 1, (some .boolean), 1, 99, 1, 25),
  (yX7_isPerson, cX7_isPerson, 2, (some .boolean), 1, 7, 1, 25),
  (yX7_isPaper, cX7_isPaper, 2, (some .boolean), 1, 7, 1, 25),
  (yX7_isCandidate, cX7_isCandidate, 2, (some .boolean), 1, 7, 1, 25),
  (yX7_feed, cX7_feed, 2, (some .int), 1, 7, 1, 25),
  (yX7_letterAt, cX7_letterAt, 2, (some .int), 1, 7, 0, 0),
  (yX7_here, cX7_here, 1, (some .int), 0, 7, 1, 21),
  (yX7_fails, cX7_fails, 3, (some .boolean), 2, 7, 0, 0),
  (yX7_takes, cX7_takes, 2, (some .boolean), 1, 7, 2, 41),
  (yX7_takesNumber, cX7_takesNumber, 2, (some .boolean), 1, 7, 2, 41),
  (yX7_takesGrand, cX7_takesGrand, 1, (some .boolean), 0, 7, 3, 62),
  (yX7_takesPerson, cX7_takesPerson, 2, (some .boolean), 0, 7, 3, 62),
  (yX7_takesPaper, cX7_takesPaper, 2, (some .boolean), 0, 7, 3, 62),
  (yX7_takesCandidate, cX7_takesCandidate, 1, (some .boolean), 0, 7, 3, 62),
  (yX7_takesClause, cX7_takesClause, 5, (some .boolean), 0, 7, 4, 83),
  (yX7_clan, cX7_clan, 4, (some .int), 0, 7, 5, 107),
  (yX7_fault, cX7_fault, 1, (some .int), 0, 7, 0, 0),
  (yX7_told, cX7_told, 2, (some .int), 1, 7, 0, 0),
  (yX7_partOf, cX7_partOf, 2, (some .int), 2, 99, 0, 0),
  (yX7_off, cX7_off, 2, (some .int), 2, 99, 0, 0),
  (yX7_apart, cX7_apart, 4, (some .int), 2, 99, 1, 21),
  (yX7_isNear, cX7_isNear, 5, (some .boolean), 3, 99, 1, 21),
  (yX7_passesFor, cX7_passesFor, 3, (some .boolean), 2, 7, 2, 45),
  (yX7_person, cX7_person, 3, (some .int), 2, 7, 2, 46),
  (yX7_paper, cX7_paper, 3, (some .int), 2, 7, 2, 46),
  (yX7_candidate, cX7_candidate, 2, (some .int), 1, 7, 2, 46),
  (yX7_minds, cX7_minds, 2, none, 0, 7, 1, 23),
  (yX7_undo, cX7_undo, 2, (some .int), 0, 7, 1, 23),
  (yX7_passesYear, cX7_passesYear, 8, none, 1, 7, 1, 21),
  (yX7_year, cX7_year, 3, (some .int), 1, 7, 2, 48),
  (yX7_teach, cX7_teach, 4, (some .int), 2, 7, 2, 46),
  (yX7_sign, cX7_sign, 3, (some .int), 2, 7, 2, 46),
  (yX7_tearPaper, cX7_tearPaper, 1, (some .int), 0, 7, 2, 44),
  (yX7_draw, cX7_draw, 2, (some .int), 1, 7, 0, 0),
  (yX7_shaken, cX7_shaken, 5, (some .int), 3, 99, 1, 21),
  (yX7_drift, cX7_drift, 5, (some .int), 1, 7, 2, 45),
  (yX7_whoseIs, cX7_whoseIs, 4, (some .int), 1, 7, 3, 67),
  (yX7_whose, cX7_whose, 2, (some .int), 1, 7, 4, 90),
  (yX7_marksOf, cX7_marksOf, 7, (some .int), 1, 7, 1, 21),
  (yX7_odds, cX7_odds, 7, (some .int), 2, 7, 4, 90),
  (yX7_marks, cX7_marks, 2, (some .int), 1, 7, 2, 47),
  (yX7_between, cX7_between, 3, (some .int), 2, 7, 2, 44),
  (yX7_tree, cX7_tree, 10, (some .int), 1, 7, 3, 66),
  (yX7_kinOf, cX7_kinOf, 4, (some .int), 1, 7, 3, 66),
  (yX7_kin, cX7_kin, 2, (some .int), 1, 7, 4, 89),
  (yX7_areToldApart, cX7_areToldApart, 4, (some .boolean), 3, 7, 2, 45),
  (yX7_most, cX7_most, 6, (some .int), 0, 7, 3, 68),
  (yX7_clash, cX7_clash, 3, (some .int), 0, 7, 3, 68),
  (yX7_forged, cX7_forged, 3, (some .int), 0, 7, 3, 67),
  (yX7_makers, cX7_makers, 2, (some .int), 1, 7, 4, 90),
  (yX7_heir, cX7_heir, 4, (some .int), 1, 7, 2, 48),
  (yX7_sham, cX7_sham, 5, (some .int), 1, 7, 2, 46),
  (yX7_love, cX7_love, 5, (some .int), 1, 7, 4, 89),
  (yX7_voteOf, cX7_voteOf, 4, (some .int), 1, 7, 2, 44),
  (yX7_vote, cX7_vote, 2, (some .int), 1, 7, 3, 67),
  (yX7_turned, cX7_turned, 6, (some .int), 2, 7, 3, 67),
  (yX7_one, cX7_one, 4, (some .int), 2, 7, 3, 68),
  (yX7_see, cX7_see, 2, (some .int), 1, 7, 2, 45),
  (yX7_makersOfSeen, cX7_makersOfSeen, 3, (some .int), 0, 7, 4, 90),
  (yX7_madeBy, cX7_madeBy, 1, (some .int), 0, 7, 5, 112),
  (yX7_lookAt, cX7_lookAt, 9, (some .int), 0, 7, 5, 112),
  (yX7_write, cX7_write, 3, (some .int), 2, 7, 2, 46),
  (yX7_tear, cX7_tear, 2, (some .int), 0, 7, 0, 0),
  (yX7_judge, cX7_judge, 2, (some .int), 0, 7, 0, 0),
  (yX7_seed, cX7_seed, 3, (some .int), 1, 7, 0, 0),
  (yX7_keep, cX7_keep, 2, (some .int), 1, 7, 1, 25),
  (yX7_goBack, cX7_goBack, 2, (some .int), 1, 7, 1, 25),
  (yJ6_bitCount_0f7a4, cJ6_bitCount_0f7a4, 1, (some .int), 1, 99, 0, 0)]
def jMp : List (Nat × Nat × Nat × Nat) := [(300, 56, 298, 299), (355, 56, 353, 354), (419, 58, 417, 418), (478, 58, 476, 477), (371, 58, 369, 370), (597, 60, 595, 596), (618, 60, 616, 617), (367, 60, 365, 366), (288, 55, 286, 287), (296, 55, 294, 295), (316, 55, 315, 2), (324, 55, 323, 4), (339, 55, 338, 7), (343, 55, 342, 8), (351, 55, 350, 9), (328, 55, 327, 5), (335, 55, 334, 6), (320, 55, 319, 3), (308, 55, 307, 0), (312, 55, 311, 1), (331, 55, 330, 0), (304, 57, 302, 303), (347, 57, 345, 346), (362, 57, 360, 361), (282, 54, 280, 281), (292, 54, 290, 291), (375, 54, 373, 374), (379, 54, 377, 378), (383, 54, 381, 382), (398, 54, 396, 397), (406, 54, 404, 405), (414, 54, 412, 413), (442, 54, 440, 441), (449, 54, 447, 448), (454, 54, 452, 453), (458, 54, 456, 457), (474, 54, 472, 473), (482, 54, 480, 481), (497, 54, 495, 496), (511, 54, 509, 510), (515, 54, 513, 514), (527, 54, 525, 526), (535, 54, 533, 534), (553, 54, 551, 552), (557, 54, 555, 556), (561, 54, 559, 560), (565, 54, 563, 564), (569, 54, 567, 568), (573, 54, 571, 572), (577, 54, 575, 576), (585, 54, 583, 584), (589, 54, 587, 588), (593, 54, 591, 592), (601, 54, 599, 600), (605, 54, 603, 604), (614, 54, 612, 613), (622, 54, 620, 621), (626, 54, 624, 625), (630, 54, 628, 629), (634, 54, 632, 633), (641, 54, 639, 640), (387, 54, 386, 10), (402, 54, 401, 11), (410, 54, 409, 12), (637, 54, 636, 0), (445, 54, 444, 0), (434, 54, 433, 0), (391, 54, 390, 0), (493, 54, 492, 0), (490, 54, 489, 18), (486, 54, 485, 17), (505, 54, 504, 20), (501, 54, 500, 19), (549, 54, 548, 25), (545, 54, 544, 24), (531, 54, 530, 23), (519, 54, 518, 21), (523, 54, 522, 22), (581, 54, 580, 26), (610, 54, 609, 27), (427, 54, 426, 13), (431, 54, 430, 14), (462, 54, 461, 15), (466, 54, 465, 16), (753, 61, 752, 0), (918, 61, 917, 0), (951, 61, 950, 0), (852, 61, 851, 41), (872, 61, 871, 0), (817, 61, 816, 38), (835, 61, 834, 39), (843, 61, 842, 40), (749, 61, 747, 748), (767, 61, 766, 29), (763, 61, 762, 28), (775, 61, 774, 31), (801, 61, 800, 37), (783, 61, 782, 33), (779, 61, 778, 32), (789, 61, 788, 34), (793, 61, 792, 35), (797, 61, 796, 36), (771, 61, 770, 30), (759, 61, 757, 758), (805, 61, 803, 804), (809, 61, 807, 808), (824, 61, 823, 0), (827, 61, 826, 0), (821, 61, 820, 0), (911, 61, 910, 0), (908, 61, 907, 46), (813, 61, 811, 812), (831, 61, 829, 830), (839, 61, 837, 838), (861, 61, 860, 42), (847, 61, 845, 846), (865, 61, 864, 43), (856, 61, 854, 855), (869, 61, 867, 868), (877, 61, 875, 876), (881, 61, 879, 880), (889, 61, 888, 44), (896, 61, 895, 0), (885, 61, 883, 884), (904, 61, 903, 45), (900, 61, 898, 899), (923, 61, 922, 47), (915, 61, 913, 914), (927, 61, 925, 926), (936, 61, 935, 48), (931, 61, 929, 930), (944, 61, 943, 49), (940, 61, 938, 939), (955, 61, 954, 50), (948, 61, 946, 947), (959, 61, 957, 958), (963, 61, 961, 962), (967, 61, 965, 966), (971, 61, 969, 970), (975, 61, 973, 974), (979, 61, 977, 978), (987, 61, 986, 51), (983, 61, 981, 982), (991, 61, 989, 990), (995, 61, 993, 994), (999, 61, 997, 998), (1007, 61, 1006, 52), (1003, 61, 1001, 1002), (1011, 61, 1009, 1010), (1015, 61, 1013, 1014), (1019, 61, 1017, 1018), (1023, 61, 1021, 1022), (1027, 61, 1025, 1026), (1031, 61, 1029, 1030), (1035, 61, 1033, 1034), (538, 64, 537, 0)]
theorem jKi_ok : jKi.all (fun q => jat q.2.2.2 (Cond.constant (jcn q.1) q.2.1 (jc q.2.2.1))) = true := by decide +kernel
theorem jKj_ok : jKj.all (fun q => jat q.2.2.2 (Cond.constantLong (jcn q.1) q.2.1 (jcl q.2.2.1))) = true := by decide +kernel
def jFok (q : Nat × Nat × Nat × Nat × Nat) : Bool := match vwCl[q.2.2.1]? with
  | some r => decide (q.2.2.2.1 < r.2.2) && jat q.2.2.2.2 (Cond.fieldLink (jcn q.1) q.2.1 (r.2.1 q.2.2.2.1).1 (r.2.1 q.2.2.2.1).2.1 (r.2.1 q.2.2.2.1).2.2.1)
  | none => false
theorem jFl_ok : jFl.all jFok = true := by decide +kernel
def jMok (q : Nat × Nat × Nat × Nat) : Bool := match jMt[q.2.2.1]? with
  | some r => jat q.2.2.2 (Cond.methodLink (jcn q.1) q.2.1 r.1)
  | none => false
theorem jMl_ok : jMl.all jMok = true := by decide +kernel
def jbn : Nat → MethodName
  | 1 => Lib.Math.min.name
  | 2 => Lib.Math.max.name
  | 3 => Lib.Math.abs.name
  | _ => arraycopyName
theorem jBl_ok : jBl.all (fun q => jat q.2.2.2 (Cond.methodLink (jcn q.1) q.2.1 (jbn q.2.2.1))) = true := by decide +kernel
def jRok (r : jR) (z : Nat × Nat × Nat × Nat) : Bool := jat z.1 (Cond.code r.1 r.2.1 r.2.2.1 r.2.2.2.1) && (jat z.2.1 (Cond.initialized r.1.cls) && (decide (r.1.cls ≠ "java/lang/invoke/MethodHandle" ∧ r.1.cls ≠ "java/lang/invoke/VarHandle") && (decide ((parseMethodDescriptor r.1.desc).map (fun d => d.parameters.length) = some r.2.2.2.2.1) && (plainName r.1.cls && (match vwCl[r.2.2.2.2.2.1]? with
  | some q => decide (q.1 = r.1.cls) && (jat z.2.2.1 (Cond.instanceMethod r.1) && jat z.2.2.2 (Cond.selects r.1.cls r.1 r.1))
  | none => jat z.2.2.1 (Cond.static r.1))))))
