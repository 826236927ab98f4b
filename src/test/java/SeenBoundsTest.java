/** The boundary cases of what is SEEN, of THE BOOK, THE SEED and IMAGES, promises 30 to 38, sentence by sentence. */
public final class SeenBoundsTest {
    private static final Check check = new Check();

    private static final int NONE = Check.NONE, UNKNOWN = Check.UNKNOWN, OUTSIDE = Check.OUTSIDE, NOT = Check.NOT,
        FULL = Check.FULL;

    public static void main(String[] args) {
        eightAreSeen();
        seenMarks();
        madeBySets();
        madeByAllThatIsSeen();
        lookAtLikeOnes();
        lookAtNone();
        lookAtThoseWhoFit();
        fifteenEntries();
        entriesOfPersons();
        tornBoth();
        judgedFirst();
        judgedNow();
        seedBounds();
        seedStays();
        imagesThereAre();
        imageNotKept();
        imageTakesUndoneAway();
        imageIsReplaced();
        imageHoldsFullPapers();
        imageWithTheSeed();
        imageLeavesTheRest();
        check.end();
    }

    /** "SEEN (8 at most)"; promise 30: "FULL (8)", behind OUTSIDE. */
    private static void eightAreSeen() {
        for (String text : new String[] {"", "x0;", "x0;p5 0 0;"}) {
            check.rows(text, "see(0)", 1, "see(0)", 2, "see(1)", 3, "see(2)", 4, "see(3)", 5, "see(4)", 6, "see(5)", 7,
                "told(7)", 7, "see(999)", 8, "see(0)", FULL, "see(999)", FULL, "see(1000)", OUTSIDE, "see(-1)", OUTSIDE,
                "told(7)", 8, "tear()", 8, "see(0)", 1);
        }
    }

    private static void seenMarks() {
        check.rows("x0;p0 0 0;p999 0 0;", "see(-1)", OUTSIDE, "see(1000)", OUTSIDE, "told(7)", 0, "madeBy()", 3,
            "see(0)", 1, "madeBy()", 1, "tear()", 1, "see(999)", 1, "madeBy()", 2, "told(9)", 0);
    }

    /** Promise 31: a SET; all of them, while nothing is SEEN; 0 without PERSONS. */
    private static void madeBySets() {
        check.rows("", "madeBy()", 0, "see(0)", 1, "madeBy()", 0);
        check.rows("x0;", "madeBy()", 0, "see(0)", 1, "madeBy()", 0);
        check.rows("x0;p5 0 0;", "madeBy()", 1, "see(5)", 1, "madeBy()", 1, "see(6)", 2, "madeBy()", 0);
        check.rows("x0;" + "p5 0 0;".repeat(8), "madeBy()", 255, "see(5)", 1, "madeBy()", 255, "see(4)", 2,
            "madeBy()", 0);
    }

    /** "PERSONS for whom all that is SEEN PASSES": the first and the eighth, too; SLIPS as far as they go. */
    private static void madeByAllThatIsSeen() {
        check.rows("x0;p555 0 0;p555 1 0;p555 2 0;p555 3 0;", "see(555)", 1, "madeBy()", 15, "see(544)", 2,
            "madeBy()", 14, "see(753)", 3, "madeBy()", 12, "see(582)", 4, "madeBy()", 8, "see(951)", 5, "madeBy()", 0);
        for (int odd = 0; odd < 8; odd++) {
            Cross x = Check.of("x0;p555 0 0;p555 1 0;");
            for (int k = 0; k < 8; k++) {
                x.see(k == odd ? 556 : 555);
            }
            check.due("madeBy() with another one at " + odd, x.madeBy(), 2);
        }
        check.rows("x0;p555 0 0;p560 0 0;", "see(555)", 1, "madeBy()", 1, "teach(1, 555)", 6, "madeBy()", 3, "undo()", 0,
            "madeBy()", 1, "year(2)", 2, "madeBy()", 0);
    }

    /** "the greatest part that is alike is least; of like ones the least". */
    private static void lookAtLikeOnes() {
        check.rows("x0;p111 0 0;p222 0 0;", "lookAt()", 0);
        check.rows("x0;p111 0 0;p122 0 0;", "lookAt()", 1);
        check.rows("x0;p111 0 0;p112 0 0;", "lookAt()", 2);
        check.rows("x0;p111 0 0;p211 0 0;", "lookAt()", 0);
        check.rows("x0;p0 0 0;p900 0 0;", "lookAt()", 0);
        check.rows("x0;p0 0 0;p90 0 0;", "lookAt()", 1);
        check.rows("x0;p0 0 0;p9 0 0;", "lookAt()", 2);
        // LEAN leaves 2 of 3 alike, LONG 2, PRESSED 1.
        check.rows("x0;p111 0 0;p112 0 0;p223 0 0;", "lookAt()", 2);
        // LEAN 2 and 2, LONG 3 and 1, PRESSED 2, 1 and 1: what counts is the greatest, so LEAN is not behind PRESSED.
        check.rows("x0;p111 0 0;p111 0 0;p212 0 0;p223 0 0;", "lookAt()", 0);
        // LEAN 3 and 1, LONG 2 and 2, PRESSED 2, 1 and 1.
        check.rows("x0;p111 0 0;p111 0 0;p122 0 0;p223 0 0;", "lookAt()", 1);
        check.rows("x0;p100 0 0;p201 0 0;p302 0 0;p403 0 0;p504 0 0;p605 0 0;p706 0 0;p807 0 0;", "lookAt()", 0);
        check.rows("x0;p100 0 0;p101 0 0;p202 0 0;p303 0 0;p404 0 0;p505 0 0;p606 0 0;p707 0 0;", "lookAt()", 2);
    }

    /** Promise 32: "NONE: none parts them": nobody, one alone, all with the same MARK. */
    private static void lookAtNone() {
        check.rows("", "lookAt()", NONE);
        check.rows("x0;", "lookAt()", NONE);
        check.rows("x0;p5 0 0;", "lookAt()", NONE);
        check.rows("x0;p5 0 0;p5 3 2;", "lookAt()", NONE, "teach(1, 6)", 1, "lookAt()", 2);
        check.rows("x0;" + "p5 0 0;".repeat(8), "lookAt()", NONE);
        check.rows("x0;" + "p5 0 0;".repeat(7) + "p15 0 0;", "lookAt()", 1);
        check.rows("x0;p5 0 0;p6 0 0;", "lookAt()", 2, "see(999)", 1, "madeBy()", 0, "lookAt()", NONE);
        check.rows("x0;p5 0 0;p6 0 0;", "see(5)", 1, "madeBy()", 1, "lookAt()", NONE);
    }

    /** "the PART by which these are told apart best": by those alone for whom all that is SEEN PASSES. */
    private static void lookAtThoseWhoFit() {
        check.rows("x0;p555 1 0;p556 1 0;p905 0 0;p105 0 0;", "lookAt()", 0, "see(555)", 1, "madeBy()", 3,
            "lookAt()", 2);
        check.rows("x0;p555 1 0;p565 1 0;p905 0 0;p555 1 0;", "see(555)", 1, "madeBy()", 11, "lookAt()", 1);
    }

    /** "THE BOOK (15 at most)"; promise 33: "FULL (15)", the last of REFUSALS. */
    private static void fifteenEntries() {
        Cross x = Check.of("x0;p5 0 0;");
        for (int k = 1; k <= 15; k++) {
            check.due("write(0, 5)", x.write(0, 5), k);
        }
        check.moreRows("fifteen:", x, "write(0, 5)", FULL, "write(0, 6)", FULL, "write(0, 1000)", OUTSIDE,
            "write(0, -1)", OUTSIDE, "write(1, 5)", UNKNOWN, "write(1, 1000)", UNKNOWN, "told(8)", 15, "judge()", NONE,
            "tear()", 15, "write(0, 6)", 1, "judge()", 0);
    }

    private static void entriesOfPersons() {
        check.rows("", "write(0, 0)", UNKNOWN, "write(0, 1000)", UNKNOWN);
        check.rows("x0;", "write(0, 0)", UNKNOWN);
        check.rows("x0;" + "p5 0 0;".repeat(7) + "p999 0 0;", "write(-1, 0)", UNKNOWN, "write(8, 0)", UNKNOWN,
            "write(-1, -1)", UNKNOWN, "write(8, 1000)", UNKNOWN, "write(7, 1000)", OUTSIDE, "write(0, -1)", OUTSIDE,
            "told(8)", 0, "write(7, 999)", 1, "judge()", NONE, "write(0, 0)", 2, "judge()", 1, "told(9)", 0);
    }

    /** Promise 34: "how much both had", of nothing, one of them, and both full. */
    private static void tornBoth() {
        check.rows("", "tear()", 0, "see(5)", 1, "tear()", 1, "tear()", 0);
        check.rows("x0;p5 0 0;", "tear()", 0, "write(0, 5)", 1, "tear()", 1, "told(8)", 0, "see(6)", 1, "tear()", 1,
            "told(7)", 0, "madeBy()", 1);
        Cross x = Check.of("x0;p5 0 0;s0 7;");
        for (int k = 0; k < 15; k++) {
            x.see(6);
            x.write(0, 6);
        }
        check.moreRows("both full:", x, "told(7)", 8, "told(8)", 15, "madeBy()", 0, "judge()", 0, "teach(0, 9)", 4,
            "tear()", 23, "told(7)", 0, "told(8)", 0, "madeBy()", 1, "judge()", NONE, "told(9)", 1, "told(3)", 1,
            "person(0, 0)", 9, "tear()", 0);
    }

    /** Promise 35: "WRONG: the first that is otherwise now; NONE": the first and the fifteenth, too. */
    private static void judgedFirst() {
        check.rows("", "judge()", NONE);
        check.rows("x0;p5 0 0;", "judge()", NONE);
        for (int wrong = 0; wrong < 15; wrong++) {
            Cross x = Check.of("x0;p5 0 0;p7 0 0;");
            for (int k = 0; k < 15; k++) {
                x.write(k % 2, k < wrong ? 5 + k % 2 * 2 : 0);
            }
            check.due("judge() with all wrong from " + wrong, x.judge(), wrong);
        }
        check.rows("x0;p5 3 0;", "write(0, 6)", 1, "judge()", 0);
        check.rows("x0;p0 0 0;p999 0 0;", "write(0, 0)", 1, "write(1, 999)", 2, "judge()", NONE, "write(0, 0)", 3,
            "write(0, 1)", 4, "judge()", 3, "write(1, 0)", 5, "judge()", 3);
    }

    /** "otherwise now": entries stay as told, MARKS go on. */
    private static void judgedNow() {
        check.rows("x0;p505 0 1;", "write(0, 505)", 1, "write(0, 405)", 2, "judge()", 1, "year(1)", 1, "judge()", 0,
            "undo()", 0, "judge()", 1, "keep(0)", 1, "teach(0, 405)", 1, "judge()", 0, "goBack(0)", 1, "judge()", 1,
            "drift(1)", 1, "person(0, 0)", 405, "judge()", 0);
    }

    /** Promise 36: "v (0 .. 2147483647): what it was". */
    private static void seedBounds() {
        check.rows("", "seed(-1)", OUTSIDE, "seed(0)", 0, "seed(1)", 0, "seed(2147483647)", 1, "seed(-1)", OUTSIDE,
            "seed(-2147483648)", OUTSIDE, "seed(2147483646)", 2147483647, "seed(0)", 2147483646, "seed(0)", 0);
    }

    private static void seedStays() {
        check.rows("x0;p5 0 0;", "seed(7)", 0, "year(60)", 60, "undo()", 0, "teach(0, 9)", 4, "tear()", 0, "keep(0)", 1,
            "told(9)", 0, "clan()", 0, "seed(7)", 7, "feed(121)", 1, "clan()", -11, "seed(8)", 7);
    }

    /** "IMAGES 0, 1". */
    private static void imagesThereAre() {
        for (String text : new String[] {"", "x0;p5 0 0;"}) {
            check.rows(text, "keep(-1)", UNKNOWN, "keep(2)", UNKNOWN, "goBack(-1)", UNKNOWN, "goBack(2)", UNKNOWN,
                "keep(0)", 1, "keep(1)", 1, "goBack(0)", 1, "goBack(1)", 1, "goBack(2)", UNKNOWN, "keep(2)", UNKNOWN);
        }
    }

    /** Promise 38: "NOT: it was not kept." */
    private static void imageNotKept() {
        check.rows("x0;p5 0 0;", "teach(0, 6)", 1, "goBack(0)", NOT, "goBack(1)", NOT, "told(9)", 1, "person(0, 0)", 6,
            "keep(0)", 1, "goBack(1)", NOT, "goBack(0)", 1);
        check.rows("x0;p5 0 0;", "keep(1)", 1, "goBack(0)", NOT, "goBack(1)", 1, "goBack(0)", NOT);
        check.rows("x0;p5 0 0;", "keep(0)", 1, "keep(1)", 1, "clan()", 0, "goBack(0)", NOT, "goBack(1)", NOT);
        check.rows("x0;p5 0 0;", "keep(0)", 1, "feed(121)", 1, "clan()", -11, "goBack(0)", 1, "goBack(1)", NOT);
    }

    /** Promises 37, 38: "(nothing can be undone then)". */
    private static void imageTakesUndoneAway() {
        Cross x = Check.of("x0;p5 0 0;");
        for (int k = 0; k < 20; k++) {
            x.teach(0, k);
        }
        check.moreRows("twenty undone:", x, "told(9)", 20, "keep(0)", 1, "told(9)", 0, "undo()", NOT,
            "person(0, 0)", 19, "teach(0, 5)", 5, "told(9)", 1, "goBack(0)", 1, "told(9)", 0, "undo()", NOT,
            "person(0, 0)", 19, "teach(0, 6)", 4, "undo()", 0, "person(0, 0)", 19);
    }

    private static void imageIsReplaced() {
        check.rows("x0;p5 0 0;", "keep(0)", 1, "teach(0, 6)", 1, "keep(1)", 1, "teach(0, 7)", 1, "keep(0)", 1,
            "teach(0, 8)", 1, "goBack(1)", 1, "person(0, 0)", 6, "goBack(0)", 1, "person(0, 0)", 7, "teach(0, 9)", 2,
            "goBack(0)", 1, "person(0, 0)", 7, "goBack(1)", 1, "person(0, 0)", 6, "keep(0)", 1, "goBack(0)", 1,
            "person(0, 0)", 6);
    }

    /** "IMAGES keep MARKS, PAPERS, YEARS": with no PAPERS and with eight. */
    private static void imageHoldsFullPapers() {
        check.rows("x0;p505 0 1;p0 0 0;s0 1;s1 2;s0 3;s1 4;s0 5;s1 6;s0 7;s1 8;", "year(3)", 3, "keep(0)", 1,
            "tearPaper()", 8, "tearPaper()", 7, "tearPaper()", 6, "tearPaper()", 5, "tearPaper()", 4, "tearPaper()", 3,
            "tearPaper()", 2, "tearPaper()", 1, "year(2)", 5, "keep(1)", 1, "sign(1, 9)", 1, "goBack(0)", 1,
            "told(3)", 8, "paper(0, 0)", 1, "paper(0, 1)", 0, "paper(7, 0)", 8, "paper(7, 1)", 1, "told(6)", 3,
            "person(0, 0)", 204, "sign(0, 0)", FULL, "goBack(1)", 1, "told(3)", 0, "paper(0, 0)", UNKNOWN, "told(6)", 5,
            "person(0, 0)", 3, "tearPaper()", NOT);
    }

    /** "THE SEED" goes back as well, with all its 31 places. */
    private static void imageWithTheSeed() {
        check.rows("x0;p5 0 0;", "seed(2147483647)", 0, "keep(0)", 1, "seed(0)", 2147483647, "keep(1)", 1, "seed(5)", 0,
            "goBack(0)", 1, "seed(6)", 2147483647, "goBack(1)", 1, "seed(7)", 0);
        Cross x = Check.of("x0;p444 0 0;p555 0 0;");
        x.seed(99);
        x.keep(0);
        x.drift(60);
        int first = x.person(0, 0);
        int second = x.person(1, 0);
        int seed = x.seed(1);
        x.goBack(0);
        x.drift(60);
        check.due("the same shakes again", x.person(0, 0), first);
        check.due("the same shakes again", x.person(1, 0), second);
        check.due("the same SEED again", x.seed(1), seed);
    }

    /** What is SEEN, THE BOOK, THE TEXT and the CLAN are not of an IMAGE. */
    private static void imageLeavesTheRest() {
        check.rows("x555;p5 1 2;c9;", "see(5)", 1, "write(0, 5)", 1, "feed(120)", 1, "keep(0)", 1, "told(7)", 1,
            "told(8)", 1, "told(5)", 1, "see(6)", 2, "write(0, 6)", 2, "feed(120)", 2, "goBack(0)", 1, "told(7)", 2,
            "told(8)", 2, "told(5)", 2, "told(1)", 555, "told(4)", 1, "person(0, 1)", 1, "person(0, 2)", 2, "tear()", 4,
            "goBack(0)", 1, "told(7)", 0, "told(8)", 0);
    }
}
