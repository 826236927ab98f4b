/-! ALL METHODS: the predicate of each, by the depth of calls; each is met by the machine -/
def jCs : List (Nat × List jI) := [(0, kX0_empty), (0, kX0_takeFrom), (1, kX1_push), (1, kX1_popInto), (1, kX1_forgetAll), (3, kX3_addSeen), (3, kX3_addEntry), (3, kX3_clearAll), (4, kX4_addLetter), (4, kX4_readAll), (4, kX4_readClause), (4, kX4_readGrandfather), (4, kX4_readPerson), (4, kX4_readPaper), (4, kX4_readCandidate), (4, kX4_readNumber), (4, kX4_readEnd), (4, kX4_fail), (4, kX4_skipBlanks), (4, kX4_letterHere), (4, kX4_isFigure), (5, kX5_empty), (5, kX5_addPaper), (5, kX5_takeFrom), (6, kX6_feed), (6, kX6_clan), (6, kX6_fault), (6, kX6_told), (6, kX6_person), (6, kX6_paper), (6, kX6_candidate), (6, kX6_year), (6, kX6_teach), (6, kX6_sign), (6, kX6_tearPaper), (6, kX6_drift), (6, kX6_undo), (6, kX6_whose), (6, kX6_odds), (6, kX6_marks), (6, kX6_tree), (6, kX6_kin), (6, kX6_most), (6, kX6_clash), (6, kX6_forged), (6, kX6_makers), (6, kX6_heir), (6, kX6_sham), (6, kX6_love), (6, kX6_vote), (6, kX6_turned), (6, kX6_one), (6, kX6_see), (6, kX6_madeBy), (6, kX6_lookAt), (6, kX6_write), (6, kX6_tear), (6, kX6_judge), (6, kX6_seed), (6, kX6_keep), (6, kX6_goBack), (6, kX6_isPerson), (6, kX6_isPaper), (6, kX6_isCandidate), (6, kX6_isImage), (6, kX6_isMark), (6, kX6_part), (6, kX6_apart), (6, kX6_within), (6, kX6_passes), (6, kX6_passSet), (6, kX6_passCount), (6, kX6_weight), (6, kX6_toldApart), (6, kX6_allToldApart), (6, kX6_nearestTo), (6, kX6_nextOfTree), (6, kX6_joinGroups), (6, kX6_choice), (6, kX6_greatestAlike), (6, kX6_passYears), (6, kX6_aged), (6, kX6_shakeOnce), (6, kX6_draw), (7, kX7_in), (7, kX7_has), (7, kX7_ones), (7, kX7_copy), (7, kX7_isMark), (7, kX7_isPerson), (7, kX7_isPaper), (7, kX7_isCandidate), (7, kX7_feed), (7, kX7_letterAt), (7, kX7_here), (7, kX7_fails), (7, kX7_takes), (7, kX7_takesNumber), (7, kX7_takesGrand), (7, kX7_takesPerson), (7, kX7_takesPaper), (7, kX7_takesCandidate), (7, kX7_takesClause), (7, kX7_clan), (7, kX7_fault), (7, kX7_told), (7, kX7_partOf), (7, kX7_off), (7, kX7_apart), (7, kX7_isNear), (7, kX7_passesFor), (7, kX7_person), (7, kX7_paper), (7, kX7_candidate), (7, kX7_minds), (7, kX7_undo), (7, kX7_passesYear), (7, kX7_year), (7, kX7_teach), (7, kX7_sign), (7, kX7_tearPaper), (7, kX7_draw), (7, kX7_shaken), (7, kX7_drift), (7, kX7_whoseIs), (7, kX7_whose), (7, kX7_marksOf), (7, kX7_odds), (7, kX7_marks), (7, kX7_between), (7, kX7_tree), (7, kX7_kinOf), (7, kX7_kin), (7, kX7_areToldApart), (7, kX7_most), (7, kX7_clash), (7, kX7_forged), (7, kX7_makers), (7, kX7_heir), (7, kX7_sham), (7, kX7_love), (7, kX7_voteOf), (7, kX7_vote), (7, kX7_turned), (7, kX7_one), (7, kX7_see), (7, kX7_makersOfSeen), (7, kX7_madeBy), (7, kX7_lookAt), (7, kX7_write), (7, kX7_tear), (7, kX7_judge), (7, kX7_seed), (7, kX7_keep), (7, kX7_goBack), (8, kJ6_bitCount_0f7a4)]
def jck1 (q : jR × Nat × List jI) : Bool := decide (q.1.1.cls = jcn q.2.1) && jchk q.2.1 q.1.2.1 q.1.2.2.2.1 q.1.2.2.2.2.2.2.1 q.1.2.2.2.2.2.2.2 q.2.2
theorem hX0_empty : jck1 ((yX0_empty, cX0_empty, 1, none, 0, 0, 0, 0), 0, kX0_empty) = true := by rw [jck1, Bool.and_eq_true]; exact ⟨by decide +kernel, gX0_empty⟩
theorem hX0_takeFrom : jck1 ((yX0_takeFrom, cX0_takeFrom, 2, none, 1, 0, 1, 26), 0, kX0_takeFrom) = true := by rw [jck1, Bool.and_eq_true]; exact ⟨by decide +kernel, gX0_takeFrom⟩
theorem hX1_push : jck1 ((yX1_push, cX1_push, 2, none, 1, 1, 2, 47), 1, kX1_push) = true := by rw [jck1, Bool.and_eq_true]; exact ⟨by decide +kernel, gX1_push⟩
theorem hX1_popInto : jck1 ((yX1_popInto, cX1_popInto, 2, none, 1, 1, 2, 47), 1, kX1_popInto) = true := by rw [jck1, Bool.and_eq_true]; exact ⟨by decide +kernel, gX1_popInto⟩
theorem hX1_forgetAll : jck1 ((yX1_forgetAll, cX1_forgetAll, 1, none, 0, 1, 0, 0), 1, kX1_forgetAll) = true := by rw [jck1, Bool.and_eq_true]; exact ⟨by decide +kernel, gX1_forgetAll⟩
theorem hX3_addSeen : jck1 ((yX3_addSeen, cX3_addSeen, 2, none, 1, 3, 0, 0), 3, kX3_addSeen) = true := by rw [jck1, Bool.and_eq_true]; exact ⟨by decide +kernel, gX3_addSeen⟩
theorem hX3_addEntry : jck1 ((yX3_addEntry, cX3_addEntry, 3, none, 2, 3, 0, 0), 3, kX3_addEntry) = true := by rw [jck1, Bool.and_eq_true]; exact ⟨by decide +kernel, gX3_addEntry⟩
theorem hX3_clearAll : jck1 ((yX3_clearAll, cX3_clearAll, 1, none, 0, 3, 0, 0), 3, kX3_clearAll) = true := by rw [jck1, Bool.and_eq_true]; exact ⟨by decide +kernel, gX3_clearAll⟩
theorem hX4_addLetter : jck1 ((yX4_addLetter, cX4_addLetter, 2, none, 1, 4, 0, 0), 4, kX4_addLetter) = true := by rw [jck1, Bool.and_eq_true]; exact ⟨by decide +kernel, gX4_addLetter⟩
theorem hX4_readAll : jck1 ((yX4_readAll, cX4_readAll, 2, (some .int), 0, 4, 5, 108), 4, kX4_readAll) = true := by rw [jck1, Bool.and_eq_true]; exact ⟨by decide +kernel, gX4_readAll⟩
theorem hX4_readClause : jck1 ((yX4_readClause, cX4_readClause, 3, none, 0, 4, 4, 86), 4, kX4_readClause) = true := by rw [jck1, Bool.and_eq_true]; exact ⟨by decide +kernel, gX4_readClause⟩
theorem hX4_readGrandfather : jck1 ((yX4_readGrandfather, cX4_readGrandfather, 3, none, 1, 4, 3, 63), 4, kX4_readGrandfather) = true := by rw [jck1, Bool.and_eq_true]; exact ⟨by decide +kernel, gX4_readGrandfather⟩
theorem hX4_readPerson : jck1 ((yX4_readPerson, cX4_readPerson, 3, none, 1, 4, 3, 63), 4, kX4_readPerson) = true := by rw [jck1, Bool.and_eq_true]; exact ⟨by decide +kernel, gX4_readPerson⟩
theorem hX4_readPaper : jck1 ((yX4_readPaper, cX4_readPaper, 4, none, 1, 4, 3, 63), 4, kX4_readPaper) = true := by rw [jck1, Bool.and_eq_true]; exact ⟨by decide +kernel, gX4_readPaper⟩
theorem hX4_readCandidate : jck1 ((yX4_readCandidate, cX4_readCandidate, 3, none, 1, 4, 3, 63), 4, kX4_readCandidate) = true := by rw [jck1, Bool.and_eq_true]; exact ⟨by decide +kernel, gX4_readCandidate⟩
theorem hX4_readNumber : jck1 ((yX4_readNumber, cX4_readNumber, 4, (some .int), 1, 4, 2, 40), 4, kX4_readNumber) = true := by rw [jck1, Bool.and_eq_true]; exact ⟨by decide +kernel, gX4_readNumber⟩
theorem hX4_readEnd : jck1 ((yX4_readEnd, cX4_readEnd, 1, none, 0, 4, 2, 40), 4, kX4_readEnd) = true := by rw [jck1, Bool.and_eq_true]; exact ⟨by decide +kernel, gX4_readEnd⟩
theorem hX4_fail : jck1 ((yX4_fail, cX4_fail, 3, none, 2, 4, 0, 0), 4, kX4_fail) = true := by rw [jck1, Bool.and_eq_true]; exact ⟨by decide +kernel, gX4_fail⟩
theorem hX4_skipBlanks : jck1 ((yX4_skipBlanks, cX4_skipBlanks, 1, none, 0, 4, 1, 20), 4, kX4_skipBlanks) = true := by rw [jck1, Bool.and_eq_true]; exact ⟨by decide +kernel, gX4_skipBlanks⟩
theorem hX4_letterHere : jck1 ((yX4_letterHere, cX4_letterHere, 1, (some .int), 0, 4, 0, 0), 4, kX4_letterHere) = true := by rw [jck1, Bool.and_eq_true]; exact ⟨by decide +kernel, gX4_letterHere⟩
theorem hX4_isFigure : jck1 ((yX4_isFigure, cX4_isFigure, 1, (some .boolean), 1, 99, 0, 0), 4, kX4_isFigure) = true := by rw [jck1, Bool.and_eq_true]; exact ⟨by decide +kernel, gX4_isFigure⟩
theorem hX5_empty : jck1 ((yX5_empty, cX5_empty, 1, none, 0, 5, 0, 0), 5, kX5_empty) = true := by rw [jck1, Bool.and_eq_true]; exact ⟨by decide +kernel, gX5_empty⟩
theorem hX5_addPaper : jck1 ((yX5_addPaper, cX5_addPaper, 3, none, 2, 5, 0, 0), 5, kX5_addPaper) = true := by rw [jck1, Bool.and_eq_true]; exact ⟨by decide +kernel, gX5_addPaper⟩
theorem hX5_takeFrom : jck1 ((yX5_takeFrom, cX5_takeFrom, 2, none, 1, 5, 1, 26), 5, kX5_takeFrom) = true := by rw [jck1, Bool.and_eq_true]; exact ⟨by decide +kernel, gX5_takeFrom⟩
theorem hX6_feed : jck1 ((yX6_feed, cX6_feed, 2, (some .int), 1, 6, 1, 21), 6, kX6_feed) = true := by rw [jck1, Bool.and_eq_true]; exact ⟨by decide +kernel, gX6_feed⟩
theorem hX6_clan : jck1 ((yX6_clan, cX6_clan, 3, (some .int), 0, 6, 6, 129), 6, kX6_clan) = true := by rw [jck1, Bool.and_eq_true]; exact ⟨by decide +kernel, gX6_clan⟩
theorem hX6_fault : jck1 ((yX6_fault, cX6_fault, 1, (some .int), 0, 6, 0, 0), 6, kX6_fault) = true := by rw [jck1, Bool.and_eq_true]; exact ⟨by decide +kernel, gX6_fault⟩
theorem hX6_told : jck1 ((yX6_told, cX6_told, 2, (some .int), 1, 6, 0, 0), 6, kX6_told) = true := by rw [jck1, Bool.and_eq_true]; exact ⟨by decide +kernel, gX6_told⟩
theorem hX6_person : jck1 ((yX6_person, cX6_person, 3, (some .int), 2, 6, 2, 42), 6, kX6_person) = true := by rw [jck1, Bool.and_eq_true]; exact ⟨by decide +kernel, gX6_person⟩
theorem hX6_paper : jck1 ((yX6_paper, cX6_paper, 3, (some .int), 2, 6, 1, 21), 6, kX6_paper) = true := by rw [jck1, Bool.and_eq_true]; exact ⟨by decide +kernel, gX6_paper⟩
theorem hX6_candidate : jck1 ((yX6_candidate, cX6_candidate, 2, (some .int), 1, 6, 1, 21), 6, kX6_candidate) = true := by rw [jck1, Bool.and_eq_true]; exact ⟨by decide +kernel, gX6_candidate⟩
theorem hX6_year : jck1 ((yX6_year, cX6_year, 2, (some .int), 1, 6, 3, 72), 6, kX6_year) = true := by rw [jck1, Bool.and_eq_true]; exact ⟨by decide +kernel, gX6_year⟩
theorem hX6_teach : jck1 ((yX6_teach, cX6_teach, 4, (some .int), 2, 6, 3, 68), 6, kX6_teach) = true := by rw [jck1, Bool.and_eq_true]; exact ⟨by decide +kernel, gX6_teach⟩
theorem hX6_sign : jck1 ((yX6_sign, cX6_sign, 3, (some .int), 2, 6, 3, 68), 6, kX6_sign) = true := by rw [jck1, Bool.and_eq_true]; exact ⟨by decide +kernel, gX6_sign⟩
theorem hX6_tearPaper : jck1 ((yX6_tearPaper, cX6_tearPaper, 2, (some .int), 0, 6, 3, 68), 6, kX6_tearPaper) = true := by rw [jck1, Bool.and_eq_true]; exact ⟨by decide +kernel, gX6_tearPaper⟩
theorem hX6_drift : jck1 ((yX6_drift, cX6_drift, 4, (some .int), 1, 6, 3, 68), 6, kX6_drift) = true := by rw [jck1, Bool.and_eq_true]; exact ⟨by decide +kernel, gX6_drift⟩
theorem hX6_undo : jck1 ((yX6_undo, cX6_undo, 1, (some .int), 0, 6, 3, 68), 6, kX6_undo) = true := by rw [jck1, Bool.and_eq_true]; exact ⟨by decide +kernel, gX6_undo⟩
theorem hX6_whose : jck1 ((yX6_whose, cX6_whose, 2, (some .int), 1, 6, 4, 88), 6, kX6_whose) = true := by rw [jck1, Bool.and_eq_true]; exact ⟨by decide +kernel, gX6_whose⟩
theorem hX6_odds : jck1 ((yX6_odds, cX6_odds, 6, (some .int), 2, 6, 3, 68), 6, kX6_odds) = true := by rw [jck1, Bool.and_eq_true]; exact ⟨by decide +kernel, gX6_odds⟩
theorem hX6_marks : jck1 ((yX6_marks, cX6_marks, 2, (some .int), 1, 6, 2, 46), 6, kX6_marks) = true := by rw [jck1, Bool.and_eq_true]; exact ⟨by decide +kernel, gX6_marks⟩
theorem hX6_tree : jck1 ((yX6_tree, cX6_tree, 5, (some .int), 1, 6, 3, 67), 6, kX6_tree) = true := by rw [jck1, Bool.and_eq_true]; exact ⟨by decide +kernel, gX6_tree⟩
theorem hX6_kin : jck1 ((yX6_kin, cX6_kin, 2, (some .int), 1, 6, 3, 67), 6, kX6_kin) = true := by rw [jck1, Bool.and_eq_true]; exact ⟨by decide +kernel, gX6_kin⟩
theorem hX6_most : jck1 ((yX6_most, cX6_most, 6, (some .int), 0, 6, 4, 90), 6, kX6_most) = true := by rw [jck1, Bool.and_eq_true]; exact ⟨by decide +kernel, gX6_most⟩
theorem hX6_clash : jck1 ((yX6_clash, cX6_clash, 3, (some .int), 0, 6, 3, 66), 6, kX6_clash) = true := by rw [jck1, Bool.and_eq_true]; exact ⟨by decide +kernel, gX6_clash⟩
theorem hX6_forged : jck1 ((yX6_forged, cX6_forged, 3, (some .int), 0, 6, 3, 65), 6, kX6_forged) = true := by rw [jck1, Bool.and_eq_true]; exact ⟨by decide +kernel, gX6_forged⟩
theorem hX6_makers : jck1 ((yX6_makers, cX6_makers, 2, (some .int), 1, 6, 4, 88), 6, kX6_makers) = true := by rw [jck1, Bool.and_eq_true]; exact ⟨by decide +kernel, gX6_makers⟩
theorem hX6_heir : jck1 ((yX6_heir, cX6_heir, 6, (some .int), 1, 6, 3, 72), 6, kX6_heir) = true := by rw [jck1, Bool.and_eq_true]; exact ⟨by decide +kernel, gX6_heir⟩
theorem hX6_sham : jck1 ((yX6_sham, cX6_sham, 5, (some .int), 1, 6, 2, 42), 6, kX6_sham) = true := by rw [jck1, Bool.and_eq_true]; exact ⟨by decide +kernel, gX6_sham⟩
theorem hX6_love : jck1 ((yX6_love, cX6_love, 5, (some .int), 1, 6, 3, 67), 6, kX6_love) = true := by rw [jck1, Bool.and_eq_true]; exact ⟨by decide +kernel, gX6_love⟩
theorem hX6_vote : jck1 ((yX6_vote, cX6_vote, 2, (some .int), 1, 6, 3, 67), 6, kX6_vote) = true := by rw [jck1, Bool.and_eq_true]; exact ⟨by decide +kernel, gX6_vote⟩
theorem hX6_turned : jck1 ((yX6_turned, cX6_turned, 6, (some .int), 2, 6, 3, 67), 6, kX6_turned) = true := by rw [jck1, Bool.and_eq_true]; exact ⟨by decide +kernel, gX6_turned⟩
theorem hX6_one : jck1 ((yX6_one, cX6_one, 4, (some .int), 2, 6, 3, 72), 6, kX6_one) = true := by rw [jck1, Bool.and_eq_true]; exact ⟨by decide +kernel, gX6_one⟩
theorem hX6_see : jck1 ((yX6_see, cX6_see, 2, (some .int), 1, 6, 1, 21), 6, kX6_see) = true := by rw [jck1, Bool.and_eq_true]; exact ⟨by decide +kernel, gX6_see⟩
theorem hX6_madeBy : jck1 ((yX6_madeBy, cX6_madeBy, 3, (some .int), 0, 6, 4, 88), 6, kX6_madeBy) = true := by rw [jck1, Bool.and_eq_true]; exact ⟨by decide +kernel, gX6_madeBy⟩
theorem hX6_lookAt : jck1 ((yX6_lookAt, cX6_lookAt, 6, (some .int), 0, 6, 5, 110), 6, kX6_lookAt) = true := by rw [jck1, Bool.and_eq_true]; exact ⟨by decide +kernel, gX6_lookAt⟩
theorem hX6_write : jck1 ((yX6_write, cX6_write, 3, (some .int), 2, 6, 1, 22), 6, kX6_write) = true := by rw [jck1, Bool.and_eq_true]; exact ⟨by decide +kernel, gX6_write⟩
theorem hX6_tear : jck1 ((yX6_tear, cX6_tear, 2, (some .int), 0, 6, 1, 20), 6, kX6_tear) = true := by rw [jck1, Bool.and_eq_true]; exact ⟨by decide +kernel, gX6_tear⟩
theorem hX6_judge : jck1 ((yX6_judge, cX6_judge, 3, (some .int), 0, 6, 1, 21), 6, kX6_judge) = true := by rw [jck1, Bool.and_eq_true]; exact ⟨by decide +kernel, gX6_judge⟩
theorem hX6_seed : jck1 ((yX6_seed, cX6_seed, 3, (some .int), 1, 6, 0, 0), 6, kX6_seed) = true := by rw [jck1, Bool.and_eq_true]; exact ⟨by decide +kernel, gX6_seed⟩
theorem hX6_keep : jck1 ((yX6_keep, cX6_keep, 2, (some .int), 1, 6, 2, 47), 6, kX6_keep) = true := by rw [jck1, Bool.and_eq_true]; exact ⟨by decide +kernel, gX6_keep⟩
theorem hX6_goBack : jck1 ((yX6_goBack, cX6_goBack, 2, (some .int), 1, 6, 2, 47), 6, kX6_goBack) = true := by rw [jck1, Bool.and_eq_true]; exact ⟨by decide +kernel, gX6_goBack⟩
theorem hX6_isPerson : jck1 ((yX6_isPerson, cX6_isPerson, 2, (some .boolean), 1, 6, 0, 0), 6, kX6_isPerson) = true := by rw [jck1, Bool.and_eq_true]; exact ⟨by decide +kernel, gX6_isPerson⟩
theorem hX6_isPaper : jck1 ((yX6_isPaper, cX6_isPaper, 2, (some .boolean), 1, 6, 0, 0), 6, kX6_isPaper) = true := by rw [jck1, Bool.and_eq_true]; exact ⟨by decide +kernel, gX6_isPaper⟩
theorem hX6_isCandidate : jck1 ((yX6_isCandidate, cX6_isCandidate, 2, (some .boolean), 1, 6, 0, 0), 6, kX6_isCandidate) = true := by rw [jck1, Bool.and_eq_true]; exact ⟨by decide +kernel, gX6_isCandidate⟩
theorem hX6_isImage : jck1 ((yX6_isImage, cX6_isImage, 1, (some .boolean), 1, 99, 0, 0), 6, kX6_isImage) = true := by rw [jck1, Bool.and_eq_true]; exact ⟨by decide +kernel, gX6_isImage⟩
theorem hX6_isMark : jck1 ((yX6_isMark, cX6_isMark, 1, (some .boolean), 1, 99, 0, 0), 6, kX6_isMark) = true := by rw [jck1, Bool.and_eq_true]; exact ⟨by decide +kernel, gX6_isMark⟩
theorem hX6_part : jck1 ((yX6_part, cX6_part, 2, (some .int), 2, 99, 0, 0), 6, kX6_part) = true := by rw [jck1, Bool.and_eq_true]; exact ⟨by decide +kernel, gX6_part⟩
theorem hX6_apart : jck1 ((yX6_apart, cX6_apart, 2, (some .int), 2, 99, 1, 21), 6, kX6_apart) = true := by rw [jck1, Bool.and_eq_true]; exact ⟨by decide +kernel, gX6_apart⟩
theorem hX6_within : jck1 ((yX6_within, cX6_within, 3, (some .boolean), 3, 99, 1, 21), 6, kX6_within) = true := by rw [jck1, Bool.and_eq_true]; exact ⟨by decide +kernel, gX6_within⟩
theorem hX6_passes : jck1 ((yX6_passes, cX6_passes, 3, (some .boolean), 2, 6, 2, 43), 6, kX6_passes) = true := by rw [jck1, Bool.and_eq_true]; exact ⟨by decide +kernel, gX6_passes⟩
theorem hX6_passSet : jck1 ((yX6_passSet, cX6_passSet, 4, (some .int), 1, 6, 3, 65), 6, kX6_passSet) = true := by rw [jck1, Bool.and_eq_true]; exact ⟨by decide +kernel, gX6_passSet⟩
theorem hX6_passCount : jck1 ((yX6_passCount, cX6_passCount, 6, (some .int), 1, 6, 1, 21), 6, kX6_passCount) = true := by rw [jck1, Bool.and_eq_true]; exact ⟨by decide +kernel, gX6_passCount⟩
theorem hX6_weight : jck1 ((yX6_weight, cX6_weight, 3, (some .int), 1, 6, 2, 46), 6, kX6_weight) = true := by rw [jck1, Bool.and_eq_true]; exact ⟨by decide +kernel, gX6_weight⟩
theorem hX6_toldApart : jck1 ((yX6_toldApart, cX6_toldApart, 4, (some .boolean), 3, 6, 2, 43), 6, kX6_toldApart) = true := by rw [jck1, Bool.and_eq_true]; exact ⟨by decide +kernel, gX6_toldApart⟩
theorem hX6_allToldApart : jck1 ((yX6_allToldApart, cX6_allToldApart, 5, (some .boolean), 1, 6, 3, 66), 6, kX6_allToldApart) = true := by rw [jck1, Bool.and_eq_true]; exact ⟨by decide +kernel, gX6_allToldApart⟩
theorem hX6_nearestTo : jck1 ((yX6_nearestTo, cX6_nearestTo, 6, (some .int), 1, 6, 2, 42), 6, kX6_nearestTo) = true := by rw [jck1, Bool.and_eq_true]; exact ⟨by decide +kernel, gX6_nearestTo⟩
theorem hX6_nextOfTree : jck1 ((yX6_nextOfTree, cX6_nextOfTree, 6, (some .int), 0, 6, 2, 42), 6, kX6_nextOfTree) = true := by rw [jck1, Bool.and_eq_true]; exact ⟨by decide +kernel, gX6_nextOfTree⟩
theorem hX6_joinGroups : jck1 ((yX6_joinGroups, cX6_joinGroups, 6, none, 2, 6, 0, 0), 6, kX6_joinGroups) = true := by rw [jck1, Bool.and_eq_true]; exact ⟨by decide +kernel, gX6_joinGroups⟩
theorem hX6_choice : jck1 ((yX6_choice, cX6_choice, 6, (some .int), 1, 6, 2, 42), 6, kX6_choice) = true := by rw [jck1, Bool.and_eq_true]; exact ⟨by decide +kernel, gX6_choice⟩
theorem hX6_greatestAlike : jck1 ((yX6_greatestAlike, cX6_greatestAlike, 7, (some .int), 2, 6, 1, 21), 6, kX6_greatestAlike) = true := by rw [jck1, Bool.and_eq_true]; exact ⟨by decide +kernel, gX6_greatestAlike⟩
theorem hX6_passYears : jck1 ((yX6_passYears, cX6_passYears, 6, none, 2, 6, 2, 47), 6, kX6_passYears) = true := by rw [jck1, Bool.and_eq_true]; exact ⟨by decide +kernel, gX6_passYears⟩
theorem hX6_aged : jck1 ((yX6_aged, cX6_aged, 7, (some .int), 3, 6, 1, 21), 6, kX6_aged) = true := by rw [jck1, Bool.and_eq_true]; exact ⟨by decide +kernel, gX6_aged⟩
theorem hX6_shakeOnce : jck1 ((yX6_shakeOnce, cX6_shakeOnce, 7, none, 0, 6, 1, 21), 6, kX6_shakeOnce) = true := by rw [jck1, Bool.and_eq_true]; exact ⟨by decide +kernel, gX6_shakeOnce⟩
theorem hX6_draw : jck1 ((yX6_draw, cX6_draw, 2, (some .int), 1, 6, 0, 0), 6, kX6_draw) = true := by rw [jck1, Bool.and_eq_true]; exact ⟨by decide +kernel, gX6_draw⟩
theorem hX7_in : jck1 ((yX7_in, cX7_in, 6, (some .boolean), 3, 99, 0, 0), 7, kX7_in) = true := by rw [jck1, Bool.and_eq_true]; exact ⟨by decide +kernel, gX7_in⟩
theorem hX7_has : jck1 ((yX7_has, cX7_has, 2, (some .boolean), 2, 99, 0, 0), 7, kX7_has) = true := by rw [jck1, Bool.and_eq_true]; exact ⟨by decide +kernel, gX7_has⟩
theorem hX7_ones : jck1 ((yX7_ones, cX7_ones, 3, (some .int), 1, 99, 0, 0), 7, kX7_ones) = true := by rw [jck1, Bool.and_eq_true]; exact ⟨by decide +kernel, gX7_ones⟩
theorem hX7_copy : jck1 ((yX7_copy, cX7_copy, 4, none, 2, 7, 0, 0), 7, kX7_copy) = true := by rw [jck1, Bool.and_eq_true]; exact ⟨by decide +kernel, gX7_copy⟩
theorem hX7_isMark : jck1 ((yX7_isMark, cX7_isMark, 1, (some .boolean), 1, 99, 1, 25), 7, kX7_isMark) = true := by rw [jck1, Bool.and_eq_true]; exact ⟨by decide +kernel, gX7_isMark⟩
theorem hX7_isPerson : jck1 ((yX7_isPerson, cX7_isPerson, 2, (some .boolean), 1, 7, 1, 25), 7, kX7_isPerson) = true := by rw [jck1, Bool.and_eq_true]; exact ⟨by decide +kernel, gX7_isPerson⟩
theorem hX7_isPaper : jck1 ((yX7_isPaper, cX7_isPaper, 2, (some .boolean), 1, 7, 1, 25), 7, kX7_isPaper) = true := by rw [jck1, Bool.and_eq_true]; exact ⟨by decide +kernel, gX7_isPaper⟩
theorem hX7_isCandidate : jck1 ((yX7_isCandidate, cX7_isCandidate, 2, (some .boolean), 1, 7, 1, 25), 7, kX7_isCandidate) = true := by rw [jck1, Bool.and_eq_true]; exact ⟨by decide +kernel, gX7_isCandidate⟩
theorem hX7_feed : jck1 ((yX7_feed, cX7_feed, 2, (some .int), 1, 7, 1, 25), 7, kX7_feed) = true := by rw [jck1, Bool.and_eq_true]; exact ⟨by decide +kernel, gX7_feed⟩
theorem hX7_letterAt : jck1 ((yX7_letterAt, cX7_letterAt, 2, (some .int), 1, 7, 0, 0), 7, kX7_letterAt) = true := by rw [jck1, Bool.and_eq_true]; exact ⟨by decide +kernel, gX7_letterAt⟩
theorem hX7_here : jck1 ((yX7_here, cX7_here, 1, (some .int), 0, 7, 1, 21), 7, kX7_here) = true := by rw [jck1, Bool.and_eq_true]; exact ⟨by decide +kernel, gX7_here⟩
theorem hX7_fails : jck1 ((yX7_fails, cX7_fails, 3, (some .boolean), 2, 7, 0, 0), 7, kX7_fails) = true := by rw [jck1, Bool.and_eq_true]; exact ⟨by decide +kernel, gX7_fails⟩
theorem hX7_takes : jck1 ((yX7_takes, cX7_takes, 2, (some .boolean), 1, 7, 2, 41), 7, kX7_takes) = true := by rw [jck1, Bool.and_eq_true]; exact ⟨by decide +kernel, gX7_takes⟩
theorem hX7_takesNumber : jck1 ((yX7_takesNumber, cX7_takesNumber, 2, (some .boolean), 1, 7, 2, 41), 7, kX7_takesNumber) = true := by rw [jck1, Bool.and_eq_true]; exact ⟨by decide +kernel, gX7_takesNumber⟩
theorem hX7_takesGrand : jck1 ((yX7_takesGrand, cX7_takesGrand, 1, (some .boolean), 0, 7, 3, 62), 7, kX7_takesGrand) = true := by rw [jck1, Bool.and_eq_true]; exact ⟨by decide +kernel, gX7_takesGrand⟩
theorem hX7_takesPerson : jck1 ((yX7_takesPerson, cX7_takesPerson, 2, (some .boolean), 0, 7, 3, 62), 7, kX7_takesPerson) = true := by rw [jck1, Bool.and_eq_true]; exact ⟨by decide +kernel, gX7_takesPerson⟩
theorem hX7_takesPaper : jck1 ((yX7_takesPaper, cX7_takesPaper, 2, (some .boolean), 0, 7, 3, 62), 7, kX7_takesPaper) = true := by rw [jck1, Bool.and_eq_true]; exact ⟨by decide +kernel, gX7_takesPaper⟩
theorem hX7_takesCandidate : jck1 ((yX7_takesCandidate, cX7_takesCandidate, 1, (some .boolean), 0, 7, 3, 62), 7, kX7_takesCandidate) = true := by rw [jck1, Bool.and_eq_true]; exact ⟨by decide +kernel, gX7_takesCandidate⟩
theorem hX7_takesClause : jck1 ((yX7_takesClause, cX7_takesClause, 5, (some .boolean), 0, 7, 4, 83), 7, kX7_takesClause) = true := by rw [jck1, Bool.and_eq_true]; exact ⟨by decide +kernel, gX7_takesClause⟩
theorem hX7_clan : jck1 ((yX7_clan, cX7_clan, 4, (some .int), 0, 7, 5, 107), 7, kX7_clan) = true := by rw [jck1, Bool.and_eq_true]; exact ⟨by decide +kernel, gX7_clan⟩
theorem hX7_fault : jck1 ((yX7_fault, cX7_fault, 1, (some .int), 0, 7, 0, 0), 7, kX7_fault) = true := by rw [jck1, Bool.and_eq_true]; exact ⟨by decide +kernel, gX7_fault⟩
theorem hX7_told : jck1 ((yX7_told, cX7_told, 2, (some .int), 1, 7, 0, 0), 7, kX7_told) = true := by rw [jck1, Bool.and_eq_true]; exact ⟨by decide +kernel, gX7_told⟩
theorem hX7_partOf : jck1 ((yX7_partOf, cX7_partOf, 2, (some .int), 2, 99, 0, 0), 7, kX7_partOf) = true := by rw [jck1, Bool.and_eq_true]; exact ⟨by decide +kernel, gX7_partOf⟩
theorem hX7_off : jck1 ((yX7_off, cX7_off, 2, (some .int), 2, 99, 0, 0), 7, kX7_off) = true := by rw [jck1, Bool.and_eq_true]; exact ⟨by decide +kernel, gX7_off⟩
theorem hX7_apart : jck1 ((yX7_apart, cX7_apart, 4, (some .int), 2, 99, 1, 21), 7, kX7_apart) = true := by rw [jck1, Bool.and_eq_true]; exact ⟨by decide +kernel, gX7_apart⟩
theorem hX7_isNear : jck1 ((yX7_isNear, cX7_isNear, 5, (some .boolean), 3, 99, 1, 21), 7, kX7_isNear) = true := by rw [jck1, Bool.and_eq_true]; exact ⟨by decide +kernel, gX7_isNear⟩
theorem hX7_passesFor : jck1 ((yX7_passesFor, cX7_passesFor, 3, (some .boolean), 2, 7, 2, 45), 7, kX7_passesFor) = true := by rw [jck1, Bool.and_eq_true]; exact ⟨by decide +kernel, gX7_passesFor⟩
theorem hX7_person : jck1 ((yX7_person, cX7_person, 3, (some .int), 2, 7, 2, 46), 7, kX7_person) = true := by rw [jck1, Bool.and_eq_true]; exact ⟨by decide +kernel, gX7_person⟩
theorem hX7_paper : jck1 ((yX7_paper, cX7_paper, 3, (some .int), 2, 7, 2, 46), 7, kX7_paper) = true := by rw [jck1, Bool.and_eq_true]; exact ⟨by decide +kernel, gX7_paper⟩
theorem hX7_candidate : jck1 ((yX7_candidate, cX7_candidate, 2, (some .int), 1, 7, 2, 46), 7, kX7_candidate) = true := by rw [jck1, Bool.and_eq_true]; exact ⟨by decide +kernel, gX7_candidate⟩
theorem hX7_minds : jck1 ((yX7_minds, cX7_minds, 2, none, 0, 7, 1, 23), 7, kX7_minds) = true := by rw [jck1, Bool.and_eq_true]; exact ⟨by decide +kernel, gX7_minds⟩
theorem hX7_undo : jck1 ((yX7_undo, cX7_undo, 2, (some .int), 0, 7, 1, 23), 7, kX7_undo) = true := by rw [jck1, Bool.and_eq_true]; exact ⟨by decide +kernel, gX7_undo⟩
theorem hX7_passesYear : jck1 ((yX7_passesYear, cX7_passesYear, 8, none, 1, 7, 1, 21), 7, kX7_passesYear) = true := by rw [jck1, Bool.and_eq_true]; exact ⟨by decide +kernel, gX7_passesYear⟩
theorem hX7_year : jck1 ((yX7_year, cX7_year, 3, (some .int), 1, 7, 2, 48), 7, kX7_year) = true := by rw [jck1, Bool.and_eq_true]; exact ⟨by decide +kernel, gX7_year⟩
theorem hX7_teach : jck1 ((yX7_teach, cX7_teach, 4, (some .int), 2, 7, 2, 46), 7, kX7_teach) = true := by rw [jck1, Bool.and_eq_true]; exact ⟨by decide +kernel, gX7_teach⟩
theorem hX7_sign : jck1 ((yX7_sign, cX7_sign, 3, (some .int), 2, 7, 2, 46), 7, kX7_sign) = true := by rw [jck1, Bool.and_eq_true]; exact ⟨by decide +kernel, gX7_sign⟩
theorem hX7_tearPaper : jck1 ((yX7_tearPaper, cX7_tearPaper, 1, (some .int), 0, 7, 2, 44), 7, kX7_tearPaper) = true := by rw [jck1, Bool.and_eq_true]; exact ⟨by decide +kernel, gX7_tearPaper⟩
theorem hX7_draw : jck1 ((yX7_draw, cX7_draw, 2, (some .int), 1, 7, 0, 0), 7, kX7_draw) = true := by rw [jck1, Bool.and_eq_true]; exact ⟨by decide +kernel, gX7_draw⟩
theorem hX7_shaken : jck1 ((yX7_shaken, cX7_shaken, 5, (some .int), 3, 99, 1, 21), 7, kX7_shaken) = true := by rw [jck1, Bool.and_eq_true]; exact ⟨by decide +kernel, gX7_shaken⟩
theorem hX7_drift : jck1 ((yX7_drift, cX7_drift, 5, (some .int), 1, 7, 2, 45), 7, kX7_drift) = true := by rw [jck1, Bool.and_eq_true]; exact ⟨by decide +kernel, gX7_drift⟩
theorem hX7_whoseIs : jck1 ((yX7_whoseIs, cX7_whoseIs, 4, (some .int), 1, 7, 3, 67), 7, kX7_whoseIs) = true := by rw [jck1, Bool.and_eq_true]; exact ⟨by decide +kernel, gX7_whoseIs⟩
theorem hX7_whose : jck1 ((yX7_whose, cX7_whose, 2, (some .int), 1, 7, 4, 90), 7, kX7_whose) = true := by rw [jck1, Bool.and_eq_true]; exact ⟨by decide +kernel, gX7_whose⟩
theorem hX7_marksOf : jck1 ((yX7_marksOf, cX7_marksOf, 7, (some .int), 1, 7, 1, 21), 7, kX7_marksOf) = true := by rw [jck1, Bool.and_eq_true]; exact ⟨by decide +kernel, gX7_marksOf⟩
theorem hX7_odds : jck1 ((yX7_odds, cX7_odds, 7, (some .int), 2, 7, 4, 90), 7, kX7_odds) = true := by rw [jck1, Bool.and_eq_true]; exact ⟨by decide +kernel, gX7_odds⟩
theorem hX7_marks : jck1 ((yX7_marks, cX7_marks, 2, (some .int), 1, 7, 2, 47), 7, kX7_marks) = true := by rw [jck1, Bool.and_eq_true]; exact ⟨by decide +kernel, gX7_marks⟩
theorem hX7_between : jck1 ((yX7_between, cX7_between, 3, (some .int), 2, 7, 2, 44), 7, kX7_between) = true := by rw [jck1, Bool.and_eq_true]; exact ⟨by decide +kernel, gX7_between⟩
theorem hX7_tree : jck1 ((yX7_tree, cX7_tree, 10, (some .int), 1, 7, 3, 66), 7, kX7_tree) = true := by rw [jck1, Bool.and_eq_true]; exact ⟨by decide +kernel, gX7_tree⟩
theorem hX7_kinOf : jck1 ((yX7_kinOf, cX7_kinOf, 4, (some .int), 1, 7, 3, 66), 7, kX7_kinOf) = true := by rw [jck1, Bool.and_eq_true]; exact ⟨by decide +kernel, gX7_kinOf⟩
theorem hX7_kin : jck1 ((yX7_kin, cX7_kin, 2, (some .int), 1, 7, 4, 89), 7, kX7_kin) = true := by rw [jck1, Bool.and_eq_true]; exact ⟨by decide +kernel, gX7_kin⟩
theorem hX7_areToldApart : jck1 ((yX7_areToldApart, cX7_areToldApart, 4, (some .boolean), 3, 7, 2, 45), 7, kX7_areToldApart) = true := by rw [jck1, Bool.and_eq_true]; exact ⟨by decide +kernel, gX7_areToldApart⟩
theorem hX7_most : jck1 ((yX7_most, cX7_most, 6, (some .int), 0, 7, 3, 68), 7, kX7_most) = true := by rw [jck1, Bool.and_eq_true]; exact ⟨by decide +kernel, gX7_most⟩
theorem hX7_clash : jck1 ((yX7_clash, cX7_clash, 3, (some .int), 0, 7, 3, 68), 7, kX7_clash) = true := by rw [jck1, Bool.and_eq_true]; exact ⟨by decide +kernel, gX7_clash⟩
theorem hX7_forged : jck1 ((yX7_forged, cX7_forged, 3, (some .int), 0, 7, 3, 67), 7, kX7_forged) = true := by rw [jck1, Bool.and_eq_true]; exact ⟨by decide +kernel, gX7_forged⟩
theorem hX7_makers : jck1 ((yX7_makers, cX7_makers, 2, (some .int), 1, 7, 4, 90), 7, kX7_makers) = true := by rw [jck1, Bool.and_eq_true]; exact ⟨by decide +kernel, gX7_makers⟩
theorem hX7_heir : jck1 ((yX7_heir, cX7_heir, 4, (some .int), 1, 7, 2, 48), 7, kX7_heir) = true := by rw [jck1, Bool.and_eq_true]; exact ⟨by decide +kernel, gX7_heir⟩
theorem hX7_sham : jck1 ((yX7_sham, cX7_sham, 5, (some .int), 1, 7, 2, 46), 7, kX7_sham) = true := by rw [jck1, Bool.and_eq_true]; exact ⟨by decide +kernel, gX7_sham⟩
theorem hX7_love : jck1 ((yX7_love, cX7_love, 5, (some .int), 1, 7, 4, 89), 7, kX7_love) = true := by rw [jck1, Bool.and_eq_true]; exact ⟨by decide +kernel, gX7_love⟩
theorem hX7_voteOf : jck1 ((yX7_voteOf, cX7_voteOf, 4, (some .int), 1, 7, 2, 44), 7, kX7_voteOf) = true := by rw [jck1, Bool.and_eq_true]; exact ⟨by decide +kernel, gX7_voteOf⟩
theorem hX7_vote : jck1 ((yX7_vote, cX7_vote, 2, (some .int), 1, 7, 3, 67), 7, kX7_vote) = true := by rw [jck1, Bool.and_eq_true]; exact ⟨by decide +kernel, gX7_vote⟩
theorem hX7_turned : jck1 ((yX7_turned, cX7_turned, 6, (some .int), 2, 7, 3, 67), 7, kX7_turned) = true := by rw [jck1, Bool.and_eq_true]; exact ⟨by decide +kernel, gX7_turned⟩
theorem hX7_one : jck1 ((yX7_one, cX7_one, 4, (some .int), 2, 7, 3, 68), 7, kX7_one) = true := by rw [jck1, Bool.and_eq_true]; exact ⟨by decide +kernel, gX7_one⟩
theorem hX7_see : jck1 ((yX7_see, cX7_see, 2, (some .int), 1, 7, 2, 45), 7, kX7_see) = true := by rw [jck1, Bool.and_eq_true]; exact ⟨by decide +kernel, gX7_see⟩
theorem hX7_makersOfSeen : jck1 ((yX7_makersOfSeen, cX7_makersOfSeen, 3, (some .int), 0, 7, 4, 90), 7, kX7_makersOfSeen) = true := by rw [jck1, Bool.and_eq_true]; exact ⟨by decide +kernel, gX7_makersOfSeen⟩
theorem hX7_madeBy : jck1 ((yX7_madeBy, cX7_madeBy, 1, (some .int), 0, 7, 5, 112), 7, kX7_madeBy) = true := by rw [jck1, Bool.and_eq_true]; exact ⟨by decide +kernel, gX7_madeBy⟩
theorem hX7_lookAt : jck1 ((yX7_lookAt, cX7_lookAt, 9, (some .int), 0, 7, 5, 112), 7, kX7_lookAt) = true := by rw [jck1, Bool.and_eq_true]; exact ⟨by decide +kernel, gX7_lookAt⟩
theorem hX7_write : jck1 ((yX7_write, cX7_write, 3, (some .int), 2, 7, 2, 46), 7, kX7_write) = true := by rw [jck1, Bool.and_eq_true]; exact ⟨by decide +kernel, gX7_write⟩
theorem hX7_tear : jck1 ((yX7_tear, cX7_tear, 2, (some .int), 0, 7, 0, 0), 7, kX7_tear) = true := by rw [jck1, Bool.and_eq_true]; exact ⟨by decide +kernel, gX7_tear⟩
theorem hX7_judge : jck1 ((yX7_judge, cX7_judge, 2, (some .int), 0, 7, 0, 0), 7, kX7_judge) = true := by rw [jck1, Bool.and_eq_true]; exact ⟨by decide +kernel, gX7_judge⟩
theorem hX7_seed : jck1 ((yX7_seed, cX7_seed, 3, (some .int), 1, 7, 0, 0), 7, kX7_seed) = true := by rw [jck1, Bool.and_eq_true]; exact ⟨by decide +kernel, gX7_seed⟩
theorem hX7_keep : jck1 ((yX7_keep, cX7_keep, 2, (some .int), 1, 7, 1, 25), 7, kX7_keep) = true := by rw [jck1, Bool.and_eq_true]; exact ⟨by decide +kernel, gX7_keep⟩
theorem hX7_goBack : jck1 ((yX7_goBack, cX7_goBack, 2, (some .int), 1, 7, 1, 25), 7, kX7_goBack) = true := by rw [jck1, Bool.and_eq_true]; exact ⟨by decide +kernel, gX7_goBack⟩
theorem hJ6_bitCount_0f7a4 : jck1 ((yJ6_bitCount_0f7a4, cJ6_bitCount_0f7a4, 1, (some .int), 1, 99, 0, 0), 8, kJ6_bitCount_0f7a4) = true := by rw [jck1, Bool.and_eq_true]; exact ⟨by decide +kernel, gJ6_bitCount_0f7a4⟩
theorem jcs_ok_0 : ∀ q ∈ ((jMt.drop 0).take 13).zip ((jCs.drop 0).take 13), jck1 q = true := List.forall_mem_cons.mpr ⟨hX0_empty, List.forall_mem_cons.mpr ⟨hX0_takeFrom, List.forall_mem_cons.mpr ⟨hX1_push, List.forall_mem_cons.mpr ⟨hX1_popInto, List.forall_mem_cons.mpr ⟨hX1_forgetAll, List.forall_mem_cons.mpr ⟨hX3_addSeen, List.forall_mem_cons.mpr ⟨hX3_addEntry, List.forall_mem_cons.mpr ⟨hX3_clearAll, List.forall_mem_cons.mpr ⟨hX4_addLetter, List.forall_mem_cons.mpr ⟨hX4_readAll, List.forall_mem_cons.mpr ⟨hX4_readClause, List.forall_mem_cons.mpr ⟨hX4_readGrandfather, List.forall_mem_cons.mpr ⟨hX4_readPerson, fun _ h => absurd h List.not_mem_nil⟩⟩⟩⟩⟩⟩⟩⟩⟩⟩⟩⟩⟩
theorem jcs_ok_1 : ∀ q ∈ ((jMt.drop 13).take 13).zip ((jCs.drop 13).take 13), jck1 q = true := List.forall_mem_cons.mpr ⟨hX4_readPaper, List.forall_mem_cons.mpr ⟨hX4_readCandidate, List.forall_mem_cons.mpr ⟨hX4_readNumber, List.forall_mem_cons.mpr ⟨hX4_readEnd, List.forall_mem_cons.mpr ⟨hX4_fail, List.forall_mem_cons.mpr ⟨hX4_skipBlanks, List.forall_mem_cons.mpr ⟨hX4_letterHere, List.forall_mem_cons.mpr ⟨hX4_isFigure, List.forall_mem_cons.mpr ⟨hX5_empty, List.forall_mem_cons.mpr ⟨hX5_addPaper, List.forall_mem_cons.mpr ⟨hX5_takeFrom, List.forall_mem_cons.mpr ⟨hX6_feed, List.forall_mem_cons.mpr ⟨hX6_clan, fun _ h => absurd h List.not_mem_nil⟩⟩⟩⟩⟩⟩⟩⟩⟩⟩⟩⟩⟩
theorem jcs_ok_2 : ∀ q ∈ ((jMt.drop 26).take 13).zip ((jCs.drop 26).take 13), jck1 q = true := List.forall_mem_cons.mpr ⟨hX6_fault, List.forall_mem_cons.mpr ⟨hX6_told, List.forall_mem_cons.mpr ⟨hX6_person, List.forall_mem_cons.mpr ⟨hX6_paper, List.forall_mem_cons.mpr ⟨hX6_candidate, List.forall_mem_cons.mpr ⟨hX6_year, List.forall_mem_cons.mpr ⟨hX6_teach, List.forall_mem_cons.mpr ⟨hX6_sign, List.forall_mem_cons.mpr ⟨hX6_tearPaper, List.forall_mem_cons.mpr ⟨hX6_drift, List.forall_mem_cons.mpr ⟨hX6_undo, List.forall_mem_cons.mpr ⟨hX6_whose, List.forall_mem_cons.mpr ⟨hX6_odds, fun _ h => absurd h List.not_mem_nil⟩⟩⟩⟩⟩⟩⟩⟩⟩⟩⟩⟩⟩
theorem jcs_ok_3 : ∀ q ∈ ((jMt.drop 39).take 13).zip ((jCs.drop 39).take 13), jck1 q = true := List.forall_mem_cons.mpr ⟨hX6_marks, List.forall_mem_cons.mpr ⟨hX6_tree, List.forall_mem_cons.mpr ⟨hX6_kin, List.forall_mem_cons.mpr ⟨hX6_most, List.forall_mem_cons.mpr ⟨hX6_clash, List.forall_mem_cons.mpr ⟨hX6_forged, List.forall_mem_cons.mpr ⟨hX6_makers, List.forall_mem_cons.mpr ⟨hX6_heir, List.forall_mem_cons.mpr ⟨hX6_sham, List.forall_mem_cons.mpr ⟨hX6_love, List.forall_mem_cons.mpr ⟨hX6_vote, List.forall_mem_cons.mpr ⟨hX6_turned, List.forall_mem_cons.mpr ⟨hX6_one, fun _ h => absurd h List.not_mem_nil⟩⟩⟩⟩⟩⟩⟩⟩⟩⟩⟩⟩⟩
theorem jcs_ok_4 : ∀ q ∈ ((jMt.drop 52).take 13).zip ((jCs.drop 52).take 13), jck1 q = true := List.forall_mem_cons.mpr ⟨hX6_see, List.forall_mem_cons.mpr ⟨hX6_madeBy, List.forall_mem_cons.mpr ⟨hX6_lookAt, List.forall_mem_cons.mpr ⟨hX6_write, List.forall_mem_cons.mpr ⟨hX6_tear, List.forall_mem_cons.mpr ⟨hX6_judge, List.forall_mem_cons.mpr ⟨hX6_seed, List.forall_mem_cons.mpr ⟨hX6_keep, List.forall_mem_cons.mpr ⟨hX6_goBack, List.forall_mem_cons.mpr ⟨hX6_isPerson, List.forall_mem_cons.mpr ⟨hX6_isPaper, List.forall_mem_cons.mpr ⟨hX6_isCandidate, List.forall_mem_cons.mpr ⟨hX6_isImage, fun _ h => absurd h List.not_mem_nil⟩⟩⟩⟩⟩⟩⟩⟩⟩⟩⟩⟩⟩
theorem jcs_ok_5 : ∀ q ∈ ((jMt.drop 65).take 13).zip ((jCs.drop 65).take 13), jck1 q = true := List.forall_mem_cons.mpr ⟨hX6_isMark, List.forall_mem_cons.mpr ⟨hX6_part, List.forall_mem_cons.mpr ⟨hX6_apart, List.forall_mem_cons.mpr ⟨hX6_within, List.forall_mem_cons.mpr ⟨hX6_passes, List.forall_mem_cons.mpr ⟨hX6_passSet, List.forall_mem_cons.mpr ⟨hX6_passCount, List.forall_mem_cons.mpr ⟨hX6_weight, List.forall_mem_cons.mpr ⟨hX6_toldApart, List.forall_mem_cons.mpr ⟨hX6_allToldApart, List.forall_mem_cons.mpr ⟨hX6_nearestTo, List.forall_mem_cons.mpr ⟨hX6_nextOfTree, List.forall_mem_cons.mpr ⟨hX6_joinGroups, fun _ h => absurd h List.not_mem_nil⟩⟩⟩⟩⟩⟩⟩⟩⟩⟩⟩⟩⟩
theorem jcs_ok_6 : ∀ q ∈ ((jMt.drop 78).take 13).zip ((jCs.drop 78).take 13), jck1 q = true := List.forall_mem_cons.mpr ⟨hX6_choice, List.forall_mem_cons.mpr ⟨hX6_greatestAlike, List.forall_mem_cons.mpr ⟨hX6_passYears, List.forall_mem_cons.mpr ⟨hX6_aged, List.forall_mem_cons.mpr ⟨hX6_shakeOnce, List.forall_mem_cons.mpr ⟨hX6_draw, List.forall_mem_cons.mpr ⟨hX7_in, List.forall_mem_cons.mpr ⟨hX7_has, List.forall_mem_cons.mpr ⟨hX7_ones, List.forall_mem_cons.mpr ⟨hX7_copy, List.forall_mem_cons.mpr ⟨hX7_isMark, List.forall_mem_cons.mpr ⟨hX7_isPerson, List.forall_mem_cons.mpr ⟨hX7_isPaper, fun _ h => absurd h List.not_mem_nil⟩⟩⟩⟩⟩⟩⟩⟩⟩⟩⟩⟩⟩
theorem jcs_ok_7 : ∀ q ∈ ((jMt.drop 91).take 13).zip ((jCs.drop 91).take 13), jck1 q = true := List.forall_mem_cons.mpr ⟨hX7_isCandidate, List.forall_mem_cons.mpr ⟨hX7_feed, List.forall_mem_cons.mpr ⟨hX7_letterAt, List.forall_mem_cons.mpr ⟨hX7_here, List.forall_mem_cons.mpr ⟨hX7_fails, List.forall_mem_cons.mpr ⟨hX7_takes, List.forall_mem_cons.mpr ⟨hX7_takesNumber, List.forall_mem_cons.mpr ⟨hX7_takesGrand, List.forall_mem_cons.mpr ⟨hX7_takesPerson, List.forall_mem_cons.mpr ⟨hX7_takesPaper, List.forall_mem_cons.mpr ⟨hX7_takesCandidate, List.forall_mem_cons.mpr ⟨hX7_takesClause, List.forall_mem_cons.mpr ⟨hX7_clan, fun _ h => absurd h List.not_mem_nil⟩⟩⟩⟩⟩⟩⟩⟩⟩⟩⟩⟩⟩
theorem jcs_ok_8 : ∀ q ∈ ((jMt.drop 104).take 13).zip ((jCs.drop 104).take 13), jck1 q = true := List.forall_mem_cons.mpr ⟨hX7_fault, List.forall_mem_cons.mpr ⟨hX7_told, List.forall_mem_cons.mpr ⟨hX7_partOf, List.forall_mem_cons.mpr ⟨hX7_off, List.forall_mem_cons.mpr ⟨hX7_apart, List.forall_mem_cons.mpr ⟨hX7_isNear, List.forall_mem_cons.mpr ⟨hX7_passesFor, List.forall_mem_cons.mpr ⟨hX7_person, List.forall_mem_cons.mpr ⟨hX7_paper, List.forall_mem_cons.mpr ⟨hX7_candidate, List.forall_mem_cons.mpr ⟨hX7_minds, List.forall_mem_cons.mpr ⟨hX7_undo, List.forall_mem_cons.mpr ⟨hX7_passesYear, fun _ h => absurd h List.not_mem_nil⟩⟩⟩⟩⟩⟩⟩⟩⟩⟩⟩⟩⟩
theorem jcs_ok_9 : ∀ q ∈ ((jMt.drop 117).take 13).zip ((jCs.drop 117).take 13), jck1 q = true := List.forall_mem_cons.mpr ⟨hX7_year, List.forall_mem_cons.mpr ⟨hX7_teach, List.forall_mem_cons.mpr ⟨hX7_sign, List.forall_mem_cons.mpr ⟨hX7_tearPaper, List.forall_mem_cons.mpr ⟨hX7_draw, List.forall_mem_cons.mpr ⟨hX7_shaken, List.forall_mem_cons.mpr ⟨hX7_drift, List.forall_mem_cons.mpr ⟨hX7_whoseIs, List.forall_mem_cons.mpr ⟨hX7_whose, List.forall_mem_cons.mpr ⟨hX7_marksOf, List.forall_mem_cons.mpr ⟨hX7_odds, List.forall_mem_cons.mpr ⟨hX7_marks, List.forall_mem_cons.mpr ⟨hX7_between, fun _ h => absurd h List.not_mem_nil⟩⟩⟩⟩⟩⟩⟩⟩⟩⟩⟩⟩⟩
theorem jcs_ok_10 : ∀ q ∈ ((jMt.drop 130).take 13).zip ((jCs.drop 130).take 13), jck1 q = true := List.forall_mem_cons.mpr ⟨hX7_tree, List.forall_mem_cons.mpr ⟨hX7_kinOf, List.forall_mem_cons.mpr ⟨hX7_kin, List.forall_mem_cons.mpr ⟨hX7_areToldApart, List.forall_mem_cons.mpr ⟨hX7_most, List.forall_mem_cons.mpr ⟨hX7_clash, List.forall_mem_cons.mpr ⟨hX7_forged, List.forall_mem_cons.mpr ⟨hX7_makers, List.forall_mem_cons.mpr ⟨hX7_heir, List.forall_mem_cons.mpr ⟨hX7_sham, List.forall_mem_cons.mpr ⟨hX7_love, List.forall_mem_cons.mpr ⟨hX7_voteOf, List.forall_mem_cons.mpr ⟨hX7_vote, fun _ h => absurd h List.not_mem_nil⟩⟩⟩⟩⟩⟩⟩⟩⟩⟩⟩⟩⟩
theorem jcs_ok_11 : ∀ q ∈ ((jMt.drop 143).take 13).zip ((jCs.drop 143).take 13), jck1 q = true := List.forall_mem_cons.mpr ⟨hX7_turned, List.forall_mem_cons.mpr ⟨hX7_one, List.forall_mem_cons.mpr ⟨hX7_see, List.forall_mem_cons.mpr ⟨hX7_makersOfSeen, List.forall_mem_cons.mpr ⟨hX7_madeBy, List.forall_mem_cons.mpr ⟨hX7_lookAt, List.forall_mem_cons.mpr ⟨hX7_write, List.forall_mem_cons.mpr ⟨hX7_tear, List.forall_mem_cons.mpr ⟨hX7_judge, List.forall_mem_cons.mpr ⟨hX7_seed, List.forall_mem_cons.mpr ⟨hX7_keep, List.forall_mem_cons.mpr ⟨hX7_goBack, List.forall_mem_cons.mpr ⟨hJ6_bitCount_0f7a4, fun _ h => absurd h List.not_mem_nil⟩⟩⟩⟩⟩⟩⟩⟩⟩⟩⟩⟩⟩
theorem jcs_at {a : Nat} {r : jR} {z : Nat × List jI} (h : jMt[a]? = some r) (hz : jCs[a]? = some z) : jck1 (r, z) = true := by
  have key : ∀ (d : Nat), d ≤ a → a < d + 13 → (∀ q ∈ ((jMt.drop d).take 13).zip ((jCs.drop d).take 13), jck1 q = true) → jck1 (r, z) = true := by
    intro d h1 h2 hall
    refine hall (r, z) (List.mem_of_getElem? (i := a - d) ?_)
    rw [List.getElem?_zip_eq_some]
    rw [List.getElem?_take, List.getElem?_take, List.getElem?_drop, List.getElem?_drop, if_pos (by omega), if_pos (by omega), show d + (a - d) = a by omega]
    exact ⟨h, hz⟩
  have hl : a < jMt.length := (List.getElem?_eq_some_iff.mp h).1
  have hn : jMt.length = 156 := by decide +kernel
  rcases (show (0 ≤ a ∧ a < 13) ∨ (13 ≤ a ∧ a < 26) ∨ (26 ≤ a ∧ a < 39) ∨ (39 ≤ a ∧ a < 52) ∨ (52 ≤ a ∧ a < 65) ∨ (65 ≤ a ∧ a < 78) ∨ (78 ≤ a ∧ a < 91) ∨ (91 ≤ a ∧ a < 104) ∨ (104 ≤ a ∧ a < 117) ∨ (117 ≤ a ∧ a < 130) ∨ (130 ≤ a ∧ a < 143) ∨ (143 ≤ a ∧ a < 156) by omega) with h1 | h1 | h1 | h1 | h1 | h1 | h1 | h1 | h1 | h1 | h1 | h1
  · exact key 0 h1.1 (by omega) jcs_ok_0
  · exact key 13 h1.1 (by omega) jcs_ok_1
  · exact key 26 h1.1 (by omega) jcs_ok_2
  · exact key 39 h1.1 (by omega) jcs_ok_3
  · exact key 52 h1.1 (by omega) jcs_ok_4
  · exact key 65 h1.1 (by omega) jcs_ok_5
  · exact key 78 h1.1 (by omega) jcs_ok_6
  · exact key 91 h1.1 (by omega) jcs_ok_7
  · exact key 104 h1.1 (by omega) jcs_ok_8
  · exact key 117 h1.1 (by omega) jcs_ok_9
  · exact key 130 h1.1 (by omega) jcs_ok_10
  · exact key 143 h1.1 (by omega) jcs_ok_11
/-- what method a does, with calls at most d deep -/
def jOl (N : Nat) (K : Nat → jSh) : Nat → jO
  | 0 => fun _ _ _ _ => False
  | d + 1 => fun a as x Qr => match jMt[a]?, jCs[a]? with
    | some r, some z => (jent as).length ≤ r.2.2.1 ∧ ∃ n, jwp (jOl N K d) N K z.2 Qr n 0 (jenL r.2.2.1 as) [] x
    | _, _ => False
theorem jall (l : Launch) (N : Nat) (K : Nat → jSh) : ∀ (d a : Nat) (r : jR), jMt[a]? = some r → jMet l r.1 (.code r.1 r.2.1 r.2.2.1 r.2.2.2.1 :: jt) (jrm r) N K (jOl N K d a) := by
  intro d
  induction d with
  | zero => intro a r _ D cy ad as x Qr sz h; exact False.elim h
  | succ d ih =>
    intro a r hr D cy ad as x Qr sz h
    unfold jOl at h
    rw [hr] at h
    split at h
    · next r' z h1 h2 =>
      cases h1
      have hk := jcs_at hr h2
      simp only [jck1, Bool.and_eq_true, decide_eq_true_eq] at hk
      exact jbody (jMt_words hr).2.2.2.1 hk.1 ih hk.2 D cy ad as x Qr sz h
    · exact False.elim h
