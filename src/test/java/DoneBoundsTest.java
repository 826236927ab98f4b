/** The boundary cases of part 2 of the document, of BY DRAWS and UNDONE, and of promises 9 to 14, sentence by sentence. */
public final class DoneBoundsTest {
    private static final Check check = new Check();

    private static final int NONE = Check.NONE, UNKNOWN = Check.UNKNOWN, OUTSIDE = Check.OUTSIDE, NOT = Check.NOT,
        FULL = Check.FULL;
    private static final int[] WORTH = {100, 10, 1};

    public static void main(String[] args) {
        yearsAtOnce();
        yearWithoutClan();
        yearsAboveNineThousand();
        leanGoesNoFurther();
        pressedIsNotLessThanNone();
        onlyOddYearsPress();
        manyYearsAreOneByOne();
        taught();
        signed();
        signedWhenFull();
        torn();
        shakesAtOnce();
        shakesAtTheEdges();
        shakesOfEachNumberOfPersons();
        shakesThatComeBack();
        seedGoesRound();
        shakesOfNobody();
        nothingToUndo();
        eachKindIsUndone();
        whatIsNotUndone();
        twentyAreKept();
        twentyAreKeptAgain();
        undoLeavesTheRest();
        check.end();
    }

    /** Promise 9: "n YEARS (1 .. 60)". */
    private static void yearsAtOnce() {
        check.rows("x0;p5 0 0;", "year(0)", OUTSIDE, "year(-1)", OUTSIDE, "year(61)", OUTSIDE, "told(6)", 0,
            "told(9)", 0, "year(1)", 1, "year(60)", 61, "year(59)", 120, "told(6)", 120, "year(61)", OUTSIDE,
            "year(0)", OUTSIDE, "told(6)", 120, "told(9)", 3);
    }

    /** "NOT: no CLAN", behind OUTSIDE. */
    private static void yearWithoutClan() {
        for (String text : new String[] {"", "  ", "y", "x0;x"}) {
            check.rows(text, "year(1)", NOT, "year(60)", NOT, "year(0)", OUTSIDE, "year(61)", OUTSIDE, "told(6)", 0,
                "told(9)", 0);
        }
        check.rows("x0;", "year(1)", 1, "year(60)", 61, "told(9)", 2);
    }

    private static Cross atNineThousand() {
        Cross x = Check.of("x555;p999 0 2;");
        for (int k = 0; k < 150; k++) {
            x.year(60);
        }
        return x;
    }

    /** "FULL: YEARS are above 9000", behind OUTSIDE: 9000 is not above it, 9001 is. */
    private static void yearsAboveNineThousand() {
        check.moreRows("in 9000", atNineThousand(), "told(6)", 9000, "year(61)", OUTSIDE, "year(1)", 9001,
            "year(1)", FULL, "year(60)", FULL, "year(0)", OUTSIDE, "year(61)", OUTSIDE, "told(6)", 9001, "told(9)", 20,
            "undo()", 19, "told(6)", 9000, "year(1)", 9001, "heir(60)", 0, "drift(1)", 1);
        check.moreRows("in 9000", atNineThousand(), "year(60)", 9060, "told(6)", 9060, "year(1)", FULL, "undo()", 19,
            "undo()", 18, "told(6)", 8940, "year(60)", 9000, "year(60)", 9060, "year(60)", FULL, "keep(0)", 1,
            "goBack(0)", 1, "year(1)", FULL);
    }

    /** "LEAN of each PERSON's MARK goes D towards that of the grandfather's (no further)". */
    private static void leanGoesNoFurther() {
        for (int goal = 0; goal <= 9; goal++) {
            for (int drift = 0; drift <= 2; drift++) {
                for (int lean = 0; lean <= 9; lean++) {
                    int due = Math.abs(lean - goal) <= drift ? goal : lean < goal ? lean + drift : lean - drift;
                    Cross x = Check.of("x" + goal + "36;p" + lean + "58 0 " + drift + ";");
                    check.due("year(1)", x.year(1), 1);
                    check.due("lean " + lean + " to " + goal + " by " + drift, x.person(0, 0), 100 * due + 58);
                }
            }
        }
        check.rows("x900;p0 0 2;p100 0 2;p900 0 2;", "year(4)", 4, "person(0, 0)", 800, "person(1, 0)", 900,
            "year(1)", 5, "person(0, 0)", 900, "year(60)", 65, "person(0, 0)", 900, "person(2, 0)", 900);
        check.rows("x0;p900 0 2;p900 0 1;p900 0 0;", "year(4)", 4, "person(0, 0)", 100, "person(1, 0)", 500,
            "year(1)", 5, "person(0, 0)", 0, "year(3)", 8, "person(1, 0)", 100, "year(1)", 9, "person(1, 0)", 0,
            "year(60)", 69, "person(1, 0)", 0, "person(2, 0)", 900);
    }

    /** "PRESSED 1 less (0 at least)", whatever the grandfather's; LONG stays. */
    private static void pressedIsNotLessThanNone() {
        check.rows("x599;p542 0 0;p541 0 0;p540 0 0;p590 0 0;", "year(2)", 2, "person(0, 0)", 541,
            "person(1, 0)", 540, "person(2, 0)", 540, "person(3, 0)", 590, "year(2)", 4, "person(0, 0)", 540,
            "person(1, 0)", 540, "year(2)", 6, "person(0, 0)", 540, "person(2, 0)", 540, "person(3, 0)", 590);
        check.rows("x559;p559 0 0;", "year(17)", 17, "person(0, 0)", 551, "year(1)", 18, "person(0, 0)", 550,
            "year(2)", 20, "person(0, 0)", 550, "year(60)", 80, "person(0, 0)", 550);
    }

    /** "if YEARS (before it) is odd"; undone years count back. */
    private static void onlyOddYearsPress() {
        check.rows("x555;p559 0 0;", "year(1)", 1, "person(0, 0)", 559, "year(1)", 2, "person(0, 0)", 558, "year(1)", 3,
            "person(0, 0)", 558, "year(1)", 4, "person(0, 0)", 557, "undo()", 3, "undo()", 2, "person(0, 0)", 558,
            "told(6)", 2, "year(1)", 3, "person(0, 0)", 558, "undo()", 2, "undo()", 1, "person(0, 0)", 559,
            "told(6)", 1, "year(1)", 2, "person(0, 0)", 558);
        check.rows("x555;p559 0 0;", "keep(0)", 1, "year(1)", 1, "keep(1)", 1, "goBack(0)", 1, "year(1)", 1,
            "person(0, 0)", 559, "goBack(1)", 1, "year(1)", 2, "person(0, 0)", 558);
    }

    private static void manyYearsAreOneByOne() {
        for (int n : new int[] {2, 3, 17, 59, 60}) {
            Cross many = Check.of("x463;p909 0 2;p78 0 1;");
            Cross single = Check.of("x463;p909 0 2;p78 0 1;");
            many.year(n);
            for (int k = 0; k < n; k++) {
                single.year(1);
            }
            for (int p = 0; p < 2; p++) {
                check.due("person(" + p + ", 0) behind " + n, many.person(p, 0), single.person(p, 0));
            }
            check.due("told(6)", many.told(6), n);
            check.due("told(9) of one call", many.told(9), 1);
        }
    }

    /** Promise 10: 0 .. 27 APART; MARKS 0 .. 999; UNKNOWN ahead of OUTSIDE. */
    private static void taught() {
        check.rows("x0;p0 0 0;p555 1 2;", "teach(0, 999)", 27, "person(0, 0)", 999, "teach(0, 999)", 0,
            "teach(0, 0)", 27, "person(0, 0)", 0, "teach(0, 100)", 1, "teach(0, 110)", 1, "teach(0, 111)", 1,
            "told(9)", 6, "teach(0, 1000)", OUTSIDE, "teach(0, -1)", OUTSIDE, "teach(2, 0)", UNKNOWN,
            "teach(-1, 0)", UNKNOWN, "teach(2, 1000)", UNKNOWN, "teach(-1, -1)", UNKNOWN, "told(9)", 6,
            "person(0, 0)", 111, "person(1, 0)", 555, "person(0, 1)", 0, "person(1, 1)", 1, "person(1, 2)", 2);
        check.rows("x0;" + "p5 0 0;".repeat(8), "teach(7, 6)", 1, "teach(8, 6)", UNKNOWN);
        check.rows("x0;", "teach(0, 0)", UNKNOWN);
        check.rows("", "teach(0, 0)", UNKNOWN, "teach(0, 1000)", UNKNOWN);
    }

    /** Promise 11: PERSONS and MARKS at both ends. */
    private static void signed() {
        check.rows("x0;p0 0 0;p555 1 2;", "sign(0, 0)", 1, "sign(1, 999)", 2, "paper(0, 0)", 0, "paper(0, 1)", 0,
            "paper(1, 0)", 999, "paper(1, 1)", 1, "sign(0, 1000)", OUTSIDE, "sign(0, -1)", OUTSIDE,
            "sign(2, 0)", UNKNOWN, "sign(-1, 0)", UNKNOWN, "sign(2, 1000)", UNKNOWN, "sign(-1, -1)", UNKNOWN,
            "told(3)", 2, "told(9)", 2);
        check.rows("x0;" + "p5 0 0;".repeat(8), "sign(7, 6)", 1, "paper(0, 1)", 7, "sign(8, 6)", UNKNOWN);
        check.rows("x0;", "sign(0, 0)", UNKNOWN);
        check.rows("", "sign(0, 0)", UNKNOWN, "sign(0, 1000)", UNKNOWN);
    }

    /** "FULL (8)", the last of REFUSALS. */
    private static void signedWhenFull() {
        check.rows("x0;p0 0 0;" + "s0 1;".repeat(7), "sign(0, 2)", 8, "sign(0, 3)", FULL, "sign(0, 1000)", OUTSIDE,
            "sign(0, -1)", OUTSIDE, "sign(1, 3)", UNKNOWN, "sign(1, 1000)", UNKNOWN, "told(3)", 8, "paper(7, 0)", 2,
            "told(9)", 1, "tearPaper()", 2, "sign(0, 3)", 8, "paper(7, 0)", 3, "sign(0, 4)", FULL, "undo()", 2,
            "sign(0, 5)", 8, "paper(7, 0)", 5);
        Cross x = Check.of("x0;p0 0 0;");
        for (int k = 1; k <= 8; k++) {
            check.due("sign(0, " + k + ")", x.sign(0, k), k);
        }
        check.due("sign(0, 9)", x.sign(0, 9), FULL);
    }

    /** Promise 12: "its MARK. NOT: no PAPER." */
    private static void torn() {
        check.rows("", "tearPaper()", NOT);
        check.rows("x0;p5 0 0;", "tearPaper()", NOT, "told(9)", 0);
        check.rows("x0;p5 0 0;s0 0;s0 999;", "tearPaper()", 999, "told(3)", 1, "paper(0, 0)", 0, "tearPaper()", 0,
            "told(3)", 0, "tearPaper()", NOT, "told(9)", 2, "sign(0, 7)", 1, "tearPaper()", 7, "tearPaper()", NOT,
            "told(9)", 4);
        Cross x = Check.of("x0;p5 0 0;s0 1;s0 2;s0 3;s0 4;s0 5;s0 6;s0 7;s0 8;");
        for (int k = 8; k >= 1; k--) {
            check.due("tearPaper()", x.tearPaper(), k);
        }
        check.due("tearPaper() of none", x.tearPaper(), NOT);
    }

    /** Promise 13: "n shakes (1 .. 60)", "OUTSIDE, NOT: no CLAN". */
    private static void shakesAtOnce() {
        check.rows("x0;p555 0 0;", "drift(0)", OUTSIDE, "drift(-1)", OUTSIDE, "drift(61)", OUTSIDE, "told(9)", 0,
            "seed(0)", 0, "drift(1)", 1, "told(9)", 1);
        for (int n : new int[] {1, 60}) {
            Cross x = Check.of("x0;p555 0 0;");
            x.drift(n);
            check.due("THE SEED behind " + n + " shakes", x.seed(0), seedBehind(0, 3 * n));
        }
        for (String text : new String[] {"", " ", "y"}) {
            check.rows(text, "drift(1)", NOT, "drift(60)", NOT, "drift(0)", OUTSIDE, "drift(61)", OUTSIDE,
                "seed(0)", 0, "told(9)", 0);
        }
    }

    private static long seedBehind(long seed, int draws) {
        for (int k = 0; k < draws; k++) {
            seed = (seed * 1103515245L + 12345L) % 2147483648L;
        }
        return seed;
    }

    private static int drawn(long seed, int draws, int n) {
        return (int) (seedBehind(seed, draws) / 65536 % n);
    }

    /** The least SEED whose next shake is of this PERSON, PART and way. */
    private static int seedFor(int persons, int p, int part, int way) {
        int seed = 0;
        while (drawn(seed, 1, persons) != p || drawn(seed, 2, 3) != part || drawn(seed, 3, 2) != way) {
            seed++;
        }
        return seed;
    }

    /** "that PART of his MARK is 1 more (on 1) or less (on 0), 0 to 9". */
    private static void shakesAtTheEdges() {
        for (int part = 0; part < 3; part++) {
            for (int figure = 0; figure <= 9; figure++) {
                shaken(part, figure, 0, Math.max(figure - 1, 0));
                shaken(part, figure, 1, Math.min(figure + 1, 9));
            }
        }
    }

    private static void shaken(int part, int figure, int way, int due) {
        int others = 444 - 4 * WORTH[part];
        Cross x = Check.of("x0;p" + (others + figure * WORTH[part]) + " 0 0;");
        String where = "part " + part + " at " + figure + " on " + way;
        x.seed(seedFor(1, 0, part, way));
        check.due("drift(1) of " + where, x.drift(1), due == figure ? 0 : 1);
        check.due("person(0, 0) of " + where, x.person(0, 0), others + due * WORTH[part]);
        check.due("told(9) of " + where, x.told(9), 1);
        check.due("undo() of " + where, x.undo(), 0);
        check.due("undone: " + where, x.person(0, 0), others + figure * WORTH[part]);
    }

    /** "a DRAW of PERSONS, of 3, of 2". */
    private static void shakesOfEachNumberOfPersons() {
        for (int persons = 1; persons <= 8; persons++) {
            for (int p = 0; p < persons; p++) {
                Cross x = Check.of("x0;" + "p444 0 0;".repeat(persons));
                x.seed(seedFor(persons, p, 1, 1));
                check.due("drift(1) of " + p + " of " + persons, x.drift(1), 1);
                for (int q = 0; q < persons; q++) {
                    check.due("person(" + q + ", 0)", x.person(q, 0), q == p ? 454 : 444);
                }
            }
        }
    }

    /** "of how many PERSONS the MARK is another one then": not who was shaken and came back. */
    private static void shakesThatComeBack() {
        int seed = 0;
        while (drawn(seed, 2, 3) != drawn(seed, 5, 3) || drawn(seed, 3, 2) == drawn(seed, 6, 2)) {
            seed++;
        }
        Cross x = Check.of("x0;p444 0 0;");
        x.seed(seed);
        check.moreRows("there and back:", x, "drift(2)", 0, "person(0, 0)", 444, "told(9)", 1);
        int twice = 0;
        while (drawn(twice, 1, 2) != drawn(twice, 4, 2) || drawn(twice, 2, 3) == drawn(twice, 5, 3)) {
            twice++;
        }
        Cross y = Check.of("x0;p444 0 0;p444 0 0;");
        y.seed(twice);
        check.due("one PERSON shaken twice", y.drift(2), 1);
        int both = 0;
        while (drawn(both, 1, 2) == drawn(both, 4, 2)) {
            both++;
        }
        Cross z = Check.of("x0;p444 0 0;p444 0 0;");
        z.seed(both);
        check.due("both PERSONS shaken", z.drift(2), 2);
    }

    /** "it becomes it times 1103515245 and 12345, left over by 2 to the 31". */
    private static void seedGoesRound() {
        long[] first = {0, 1, 2, 1073741823, 1073741824, 2147483646, 2147483647};
        for (long seed : first) {
            Cross x = Check.of("x0;p444 0 0;");
            x.seed((int) seed);
            x.drift(1);
            int due = 444 + (drawn(seed, 3, 2) == 1 ? 1 : -1) * WORTH[drawn(seed, 2, 3)];
            check.due("person(0, 0) of seed " + seed, x.person(0, 0), due);
            check.due("THE SEED behind " + seed, x.seed(0), seedBehind(seed, 3));
        }
        // Written out, so that the arithmetic above is held to something: 0, 12345, 1406932606, 654583775.
        check.rows("x0;p444 0 0;", "drift(1)", 1, "seed(0)", 654583775);
        // 2147483647 times 1103515245 and 12345 is 1043980748 and so on.
        check.rows("x0;p444 0 0;", "seed(2147483647)", 0, "drift(1)", 1, "seed(0)",
            (int) seedBehind(1043980748, 2));
    }

    /** "n shakes, if there are PERSONS". */
    private static void shakesOfNobody() {
        check.rows("x0;s", "drift(1)", NOT);
        check.rows("x0;c5;", "seed(9)", 0, "drift(1)", 0, "drift(60)", 0, "drift(61)", OUTSIDE, "told(9)", 2,
            "undo()", 1, "seed(0)", 9);
    }

    /** Promise 14: "NOT: none." */
    private static void nothingToUndo() {
        check.rows("", "undo()", NOT);
        check.rows("x0;p5 0 0;s0 5;", "undo()", NOT, "told(3)", 1, "person(0, 0)", 5, "teach(0, 6)", 1, "undo()", 0,
            "undo()", NOT, "person(0, 0)", 5);
    }

    /** "the latest of year(), teach(), sign(), tearPaper(), drift() that was not refused": changed nothing, too. */
    private static void eachKindIsUndone() {
        String text = "x0;p505 0 1;s0 7;";
        check.rows(text, "year(2)", 2, "person(0, 0)", 304, "undo()", 0, "told(6)", 0, "person(0, 0)", 505);
        check.rows(text, "teach(0, 9)", 9, "undo()", 0, "person(0, 0)", 505);
        check.rows(text, "sign(0, 9)", 2, "undo()", 0, "told(3)", 1, "paper(0, 0)", 7);
        check.rows(text, "tearPaper()", 7, "undo()", 0, "told(3)", 1, "paper(0, 0)", 7, "paper(0, 1)", 0);
        check.rows(text, "drift(1)", 1, "undo()", 0, "person(0, 0)", 505);
        check.rows(text, "teach(0, 505)", 0, "told(9)", 1, "undo()", 0);
        check.rows("x0;p0 0 0;", "year(60)", 60, "told(9)", 1, "undo()", 0, "told(6)", 0);
        check.rows(text, "teach(0, 6)", 6, "teach(1, 0)", UNKNOWN, "teach(0, 1000)", OUTSIDE, "year(61)", OUTSIDE,
            "drift(0)", OUTSIDE, "sign(1, 0)", UNKNOWN, "told(9)", 1, "undo()", 0, "person(0, 0)", 505);
        check.rows(text, "tearPaper()", 7, "tearPaper()", NOT, "told(9)", 1, "undo()", 0, "undo()", NOT);
        check.rows(text, "sign(0, 1)", 2, "tearPaper()", 1, "tearPaper()", 7, "sign(0, 2)", 1, "undo()", 3,
            "told(3)", 0, "undo()", 2, "paper(0, 0)", 7, "undo()", 1, "paper(1, 0)", 1, "undo()", 0, "told(3)", 1);
    }

    /** Others than the five leave nothing to undo, and keep(), goBack(), clan() take it away. */
    private static void whatIsNotUndone() {
        String text = "x0;p505 0 1;s0 7;c9;";
        check.rows(text, "see(5)", 1, "write(0, 5)", 1, "tear()", 2, "seed(5)", 0, "feed(120)", 1, "heir(60)", 0,
            "told(9)", 0, "undo()", NOT);
        check.rows(text, "teach(0, 6)", 6, "keep(0)", 1, "told(9)", 0, "undo()", NOT, "person(0, 0)", 6);
        check.rows(text, "keep(0)", 1, "teach(0, 6)", 6, "goBack(0)", 1, "told(9)", 0, "undo()", NOT,
            "person(0, 0)", 505);
        check.rows(text, "teach(0, 6)", 6, "clan()", 0, "told(9)", 0, "undo()", NOT);
        check.rows(text, "teach(0, 6)", 6, "feed(121)", 1, "clan()", -11, "told(9)", 1, "undo()", 0,
            "person(0, 0)", 505);
        check.rows(text, "teach(0, 6)", 6, "keep(2)", UNKNOWN, "goBack(0)", NOT, "goBack(2)", UNKNOWN, "told(9)", 1);
    }

    /** "(20 at most are kept, the oldest are lost)". */
    private static void twentyAreKept() {
        for (int done : new int[] {19, 20, 21, 39, 40, 41, 45}) {
            Cross x = Check.of("x0;p0 0 0;");
            for (int k = 1; k <= done; k++) {
                x.teach(0, k);
                check.due("told(9) behind " + k, x.told(9), Math.min(k, 20));
            }
            int kept = Math.min(done, 20);
            for (int k = 1; k <= kept; k++) {
                check.due("undo()", x.undo(), kept - k);
                check.due("person(0, 0)", x.person(0, 0), done - k);
            }
            check.due("undo() behind the oldest kept", x.undo(), NOT);
            check.due("person(0, 0)", x.person(0, 0), done - kept);
        }
    }

    /** Undone and done again round the twenty; a refused call takes no place. */
    private static void twentyAreKeptAgain() {
        Cross x = Check.of("x0;p0 0 0;");
        for (int k = 1; k <= 25; k++) {
            x.teach(0, k);
        }
        for (int k = 0; k < 7; k++) {
            x.undo();
        }
        check.moreRows("undone seven:", x, "told(9)", 13, "person(0, 0)", 18);
        for (int k = 1; k <= 7; k++) {
            x.teach(0, 100 + k);
        }
        check.moreRows("done seven:", x, "told(9)", 20, "teach(0, 1000)", OUTSIDE, "year(61)", OUTSIDE,
            "tearPaper()", NOT, "sign(1, 0)", UNKNOWN, "told(9)", 20, "undo()", 19, "person(0, 0)", 106, "undo()", 18,
            "person(0, 0)", 105);
        for (int k = 0; k < 18; k++) {
            x.undo();
        }
        check.moreRows("all undone:", x, "told(9)", 0, "person(0, 0)", 5, "undo()", NOT);
    }

    /** "MARKS, PAPERS, YEARS are as ahead of it; THE SEED stays": all else stays as well. */
    private static void undoLeavesTheRest() {
        check.rows("x555;p545 1 0;p957 0 2;s0 446;c500;", "drift(3)", 2, "see(545)", 1, "write(0, 545)", 1,
            "feed(120)", 1, "undo()", 0, "told(5)", 1, "told(7)", 1, "told(8)", 1, "told(4)", 1, "told(1)", 555,
            "judge()", NONE, "fault()", NONE, "seed(0)", (int) seedBehind(0, 9));
        check.rows("x555;p545 1 0;", "keep(0)", 1, "teach(0, 1)", 13, "undo()", 0, "goBack(0)", 1, "goBack(1)", NOT);
        check.rows("x555;p545 1 0;s0 1;s0 2;", "year(5)", 5, "teach(0, 101)", 10, "sign(0, 3)", 3, "drift(1)", 1,
            "undo()", 3, "undo()", 2, "told(3)", 2, "told(6)", 5, "undo()", 1, "undo()", 0, "told(6)", 0,
            "person(0, 0)", 545, "person(0, 1)", 1);
    }
}
