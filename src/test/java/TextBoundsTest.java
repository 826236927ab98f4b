/** The boundary cases of part 1 of the document and of promises 1 to 8, sentence by sentence. */
public final class TextBoundsTest {
    private static final Check check = new Check();

    private static final int NONE = Check.NONE, UNKNOWN = Check.UNKNOWN, OUTSIDE = Check.OUTSIDE, NOT = Check.NOT,
        FULL = Check.FULL;

    public static void main(String[] args) {
        newObject();
        letters();
        twoHundredAndForty();
        theTextIsEmptyThen();
        grandfathersMark();
        personsMost();
        personsNumbers();
        papersMost();
        papersNumbers();
        candidates();
        figures();
        blanks();
        wordsAreOneLetter();
        theEnd();
        theEndBehindALongerText();
        leastAtOneLetter();
        firstLetterOfAll();
        emptyText();
        clanBeginsAnew();
        clanWithFaultLeavesAll();
        latestFault();
        toldLeastAndMost();
        personsAskedFor();
        papersAskedFor();
        candidatesAskedFor();
        check.end();
    }

    private static void good(String text, int persons) {
        Cross x = new Cross();
        check.due("clan() of '" + text + "'", Check.tell(x, text), persons);
        check.due("fault() of '" + text + "'", x.fault(), NONE);
        check.due("told(0) of '" + text + "'", x.told(0), 1);
    }

    private static void fault(String text, int number, int where) {
        Cross x = new Cross();
        check.due("clan() of '" + text + "'", Check.tell(x, text), -10 - number);
        check.due("fault() of '" + text + "'", x.fault(), where);
        check.due("told(0) of '" + text + "'", x.told(0), 0);
        check.due("told(5) of '" + text + "'", x.told(5), 0);
    }

    /** Promise 1: "No CLAN." */
    private static void newObject() {
        Cross x = new Cross();
        for (int what = 0; what <= 9; what++) {
            check.due("new: told(" + what + ")", x.told(what), 0);
        }
        check.moreRows("new:", x, "fault()", NONE, "person(0, 0)", UNKNOWN, "paper(0, 0)", UNKNOWN,
            "candidate(0)", UNKNOWN, "year(1)", NOT, "drift(1)", NOT, "tearPaper()", NOT, "undo()", NOT,
            "goBack(0)", NOT, "goBack(1)", NOT, "madeBy()", 0, "lookAt()", NONE, "judge()", NONE, "heir(0)", NONE,
            "tear()", 0, "seed(0)", 0, "feed(120)", 1);
    }

    /** Promise 2: "One letter (a number 0 .. 255)". */
    private static void letters() {
        Cross x = new Cross();
        check.moreRows("letters", x, "feed(0)", 1, "feed(-1)", OUTSIDE, "told(5)", 1, "feed(255)", 2,
            "feed(256)", OUTSIDE, "told(5)", 2, "feed(1)", 3, "feed(254)", 4);
    }

    /** Part 1: "(240 letters at most)"; promise 2: "FULL (240)", behind OUTSIDE; the last letter still counts. */
    private static void twoHundredAndForty() {
        Cross x = new Cross();
        Check.feedAll(x, "x7;" + " ".repeat(232) + "c50");
        check.moreRows("238 letters", x, "told(5)", 238, "feed(49)", 239, "feed(59)", 240, "told(5)", 240,
            "feed(121)", FULL, "feed(59)", FULL, "feed(256)", OUTSIDE, "feed(-1)", OUTSIDE, "told(5)", 240,
            "clan()", 0, "fault()", NONE, "candidate(0)", 501, "feed(120)", 1);
        Cross faulty = new Cross();
        Check.feedAll(faulty, "x7;" + " ".repeat(236) + "y");
        check.moreRows("a wrong 240th letter", faulty, "feed(32)", FULL, "clan()", -11, "fault()", 239);
        Cross open = new Cross();
        Check.feedAll(open, "x7;" + " ".repeat(236) + "c");
        check.moreRows("an end at 240", open, "feed(53)", FULL, "clan()", -11, "fault()", 240);
    }

    /** Promise 3: "THE TEXT (it is empty then, with a FAULT, too)". */
    private static void theTextIsEmptyThen() {
        for (String text : new String[] {"x7;", "y", "x1000;", "x0;x", " ", "", "x"}) {
            Cross x = Check.of(text);
            check.due("told(5) behind '" + text + "'", x.told(5), 0);
            check.due("feed behind '" + text + "'", x.feed('x'), 1);
            Check.feedAll(x, "12;");
            check.due("clan() behind '" + text + "'", x.clan(), 0);
            check.due("told(1) behind '" + text + "'", x.told(1), 12);
        }
    }

    /** "'x' G ';' (the grandfather's MARK G; first, once)". */
    private static void grandfathersMark() {
        check.rows("x0;", "told(0)", 1, "told(1)", 0);
        check.rows("x999;", "told(0)", 1, "told(1)", 999);
        fault("x1000;", 2, 1);
        fault("x-1;", 1, 1);
        for (String first : new String[] {"p0 0 0;", "s0 0;", "c0;", "y", ";", "0", "X0;"}) {
            fault(first, 1, 0);
            fault("  " + first, 1, 2);
            fault(first + "x0;", 1, 0);
        }
        fault("x0;x", 3, 3);
        fault("x0;x0;", 3, 3);
        fault("x0;p0 0 0;x1;", 3, 10);
        fault("x0;c0;  x", 3, 8);
    }

    /** "'p' M S D ';' (8 PERSONS at most". */
    private static void personsMost() {
        for (int persons = 0; persons <= 8; persons++) {
            good("x0;" + "p0 0 0;".repeat(persons), persons);
        }
        String eight = "x0;" + "p0 0 0;".repeat(8);
        fault(eight + "p0 0 0;", 3, 59);
        fault(eight + "p", 3, 59);
        fault(eight + "c0;s0 0; p9999", 3, 68);
        Cross x = Check.of("x0;p1 0 0;p2 0 1;p3 0 2;p4 1 0;p5 1 1;p6 1 2;p7 2 0;p8 3 2;");
        for (int p = 0; p < 8; p++) {
            check.due("as it comes: person(" + p + ", 0)", x.person(p, 0), p + 1);
        }
        check.due("the last SLIPS", x.person(7, 1), 3);
        check.due("the last DRIFT", x.person(7, 2), 2);
    }

    /** "MARK M, SLIPS S 0 .. 3, DRIFT D 0 .. 2". */
    private static void personsNumbers() {
        check.rows("x0;p0 0 0;", "person(0, 0)", 0, "person(0, 1)", 0, "person(0, 2)", 0);
        check.rows("x0;p999 3 2;", "person(0, 0)", 999, "person(0, 1)", 3, "person(0, 2)", 2);
        for (int slips = 0; slips <= 3; slips++) {
            for (int drift = 0; drift <= 2; drift++) {
                check.rows("x0;p5 " + slips + " " + drift + ";", "person(0, 1)", slips, "person(0, 2)", drift);
            }
        }
        fault("x0;p1000 0 0;", 2, 4);
        fault("x0;p0 4 0;", 2, 6);
        fault("x0;p0 999 0;", 2, 6);
        fault("x0;p0 0 3;", 2, 8);
        fault("x0;p0 0 999;", 2, 8);
        fault("x0;p-1 0 0;", 1, 4);
        fault("x0;p0 -1 0;", 1, 6);
        fault("x0;p0 0 -1;", 1, 8);
        fault("x0;p;", 1, 4);
        fault("x0;p0;", 1, 5);
        fault("x0;p0 0;", 1, 7);
        fault("x0;p0 0 0 0;", 1, 10);
    }

    /** "'s' P M ';' (8 PAPERS at most". */
    private static void papersMost() {
        for (int papers = 0; papers <= 8; papers++) {
            check.rows("x0;p0 0 0;" + "s0 7;".repeat(papers), "told(3)", papers);
        }
        String eight = "x0;p0 0 0;" + "s0 7;".repeat(8);
        fault(eight + "s0 7;", 3, 50);
        fault(eight + "s", 3, 50);
        fault(eight + " s9 9", 3, 51);
        check.rows("x0;p0 0 0;p0 0 0;s1 1;s0 2;s1 3;s0 4;s0 5;s0 6;s0 7;s1 8;", "paper(0, 0)", 1, "paper(0, 1)", 1,
            "paper(1, 0)", 2, "paper(1, 1)", 0, "paper(6, 0)", 7, "paper(7, 0)", 8, "paper(7, 1)", 1);
    }

    /** "MARK M, said to be by PERSON P told ahead"; "a PERSON that was not told yet (at its first)". */
    private static void papersNumbers() {
        String eight = "x0;" + "p0 0 0;".repeat(8);
        check.rows(eight + "s7 999;s0 0;", "told(3)", 2, "paper(0, 0)", 999, "paper(0, 1)", 7, "paper(1, 0)", 0,
            "paper(1, 1)", 0);
        fault(eight + "s8 0;", 2, 60);
        fault(eight + "s999 0;", 2, 60);
        fault("x0;s0 0;", 2, 4);
        fault("x0;s 0 0;p0 0 0;", 2, 5);
        fault("x0;p0 0 0;s1 0;p0 0 0;", 2, 11);
        fault("x0;p0 0 0;s12 0;", 2, 11);
        good("x0;p0 0 0;s0 0;p0 0 0;s1 0;", 2);
        good("x0;p0 0 0;s000 0;", 1);
        fault("x0;p0 0 0;s0000 0;", 2, 11);
        fault("x0;p0 0 0;s0 1000;", 2, 13);
        fault("x0;p0 0 0;s-1 0;", 1, 11);
        fault("x0;p0 0 0;s0 -1;", 1, 13);
        fault("x0;p0 0 0;s;", 1, 11);
        fault("x0;p0 0 0;s0;", 1, 12);
        fault("x0;p0 0 0;s0 0 0;", 1, 15);
    }

    /** "'c' M ';' (4 CANDIDATES at most: MARK M by their square)". */
    private static void candidates() {
        for (int candidates = 0; candidates <= 4; candidates++) {
            check.rows("x0;" + "c7;".repeat(candidates), "told(4)", candidates);
        }
        check.rows("x0;c999;c1;c2;c0;", "candidate(0)", 999, "candidate(1)", 1, "candidate(2)", 2, "candidate(3)", 0);
        fault("x0;c0;c0;c0;c0;c0;", 3, 15);
        fault("x0;c0;c0;c0;c0;c", 3, 15);
        fault("x0;c0;c0;c0;c0; c1000;", 3, 16);
        fault("x0;c1000;", 2, 4);
        fault("x0;c-1;", 1, 4);
        fault("x0;c;", 1, 4);
        fault("x0;c0 0;", 1, 6);
    }

    /** "NUMBERS have one to three figures"; "2 a NUMBER of four figures or more, or out of its bounds" at its first. */
    private static void figures() {
        String[] three = {"7", "07", "007", "70", "070", "700"};
        int[] worth = {7, 7, 7, 70, 70, 700};
        for (int k = 0; k < three.length; k++) {
            check.rows("x" + three[k] + ";", "told(1)", worth[k]);
        }
        check.rows("x0;p000 003 002;s000 012;c09;", "person(0, 1)", 3, "person(0, 2)", 2, "paper(0, 0)", 12,
            "candidate(0)", 9);
        fault("x;", 1, 1);
        fault("x0000;", 2, 1);
        fault("x0007;", 2, 1);
        fault("x 00000;", 2, 2);
        fault("x0;p0007 0 0;", 2, 4);
        fault("x0;p7 0000 0;", 2, 6);
        fault("x0;p7 0 0000;", 2, 8);
        fault("x0;c0007;", 2, 4);
        fault("x0;p0 0 0;s0 0007;", 2, 13);
        fault("x4294967296;", 2, 1);
        fault("x18446744073709551616;", 2, 1);
        fault("x" + "0".repeat(239), 2, 1);
        fault("x0;p0 4294967296 0;", 2, 6);
        fault("x/;", 1, 1);
        fault("x:;", 1, 1);
        fault("x5/;", 1, 2);
        fault("x5:;", 1, 2);
    }

    /** "blanks (32) may stand anywhere but within NUMBERS; two NUMBERS side by side need one". */
    private static void blanks() {
        check.rows("   x   12   ;   p   3   1   2   ;   s   0   4   ;   c   5   ;   ", "told(1)", 12, "told(2)", 1,
            "person(0, 0)", 3, "person(0, 1)", 1, "person(0, 2)", 2, "paper(0, 0)", 4, "candidate(0)", 5);
        check.rows("x12;p3 1 2;s0 4;c5;", "told(1)", 12, "told(2)", 1, "told(3)", 1, "told(4)", 1);
        fault("x1 2;", 1, 3);
        fault("x12 3;", 1, 4);
        fault("x0;c1 2;", 1, 6);
        fault("x0;p30 0;", 1, 8);
        fault("x0;p300;", 1, 7);
        fault("x0;p3001 0;", 2, 4);
        fault("x0;p3 00;", 1, 8);
        fault("x0;p0 0 0;s00;", 1, 13);
        for (int letter : new int[] {0, 9, 10, 13, 31, 33, 160, 255}) {
            String other = String.valueOf((char) letter);
            fault(other + "x0;", 1, 0);
            fault("x" + other + "0;", 1, 1);
            fault("x0" + other + ";", 1, 2);
            fault("x0;" + other, 1, 3);
            fault("x0;p0" + other + "0 0;", 1, 5);
        }
    }

    /** "a word is one letter"; "a letter that is no word". */
    private static void wordsAreOneLetter() {
        for (int letter = 0; letter <= 255; letter++) {
            char word = (char) letter;
            if ("xpsc ".indexOf(word) < 0) {
                fault("x0;" + word, 1, 3);
            }
            if (word != 'x' && word != ' ') {
                fault(word + "0;", 1, 0);
            }
        }
        fault("x0;pp0 0 0;", 1, 4);
        fault("x0;cc0;", 1, 4);
        fault("x0;P0 0 0;", 1, 3);
        fault("x0;C0;", 1, 3);
        fault("x0;;", 1, 3);
        fault("x0,", 1, 2);
    }

    /** "(the end at the text's length)". */
    private static void theEnd() {
        String whole = "x5;p1 2 1;s0 3;c4;";
        for (int length = 1; length <= whole.length(); length++) {
            String text = whole.substring(0, length);
            if (text.endsWith(";")) {
                good(text, length > 3 ? 1 : 0);
                good(text + " ", length > 3 ? 1 : 0);
            } else {
                fault(text, 1, length);
                fault(text + "  ", 1, length + 2);
            }
        }
        fault("x" + " ".repeat(239), 1, 240);
        fault("x999" + " ".repeat(236), 1, 240);
        fault("x0;c" + " ".repeat(233) + "999", 1, 240);
    }

    /** The end is where THE TEXT ends, not where an earlier, longer one went on. */
    private static void theEndBehindALongerText() {
        String whole = "x5;p1 2 1;s0 3;c4;";
        for (int length = 1; length < whole.length(); length++) {
            String text = whole.substring(0, length);
            Cross x = Check.of(whole);
            boolean open = !text.endsWith(";");
            check.due("clan() of '" + text + "' behind a longer one", Check.tell(x, text),
                open ? -11 : length > 3 ? 1 : 0);
            check.due("fault() of '" + text + "' behind a longer one", x.fault(), open ? length : NONE);
        }
        Cross x = Check.of("x123;");
        check.due("clan() of a NUMBER that went on", Check.tell(x, "x12"), -11);
        check.due("fault() of a NUMBER that went on", x.fault(), 3);
        check.due("clan() of the last letters of another text", Check.tell(x, "x7;"), 0);
        check.due("told(1)", x.told(1), 7);
    }

    /** "of these the least": a letter that cannot stand there, though it would be another FAULT, too. */
    private static void leastAtOneLetter() {
        fault("xx", 1, 1);
        fault("x0x0;", 1, 2);
        fault("x0;px", 1, 4);
        fault("x0 0000;", 1, 3);
        fault("x0 1000;", 1, 3);
        fault("1000;", 1, 0);
        fault("x0;1000;", 1, 3);
        fault("x0;p0 0 0 9999;", 1, 10);
        fault("x0;" + "p0 0 0;".repeat(8) + "sp", 1, 60);
        fault("x0;" + "p0 0 0;".repeat(8) + "s0p", 1, 61);
        fault("x0;p0 0 0;" + "s0 0;".repeat(8) + "cs", 1, 51);
        fault("x0;c0;c0;c0;c0;pc", 1, 16);
        fault("x0;c0;c0;c0;c0c", 1, 14);
    }

    /** "FAULTS, at the first letter that has one", be a later one of a lesser number. */
    private static void firstLetterOfAll() {
        fault("x1000;y", 2, 1);
        fault("x1000y", 2, 1);
        fault("x1000", 2, 1);
        fault("x0;xy", 3, 3);
        fault("x0;x1000;", 3, 3);
        fault("x0;p0 4 3;", 2, 6);
        fault("x0;p1000 4 3;", 2, 4);
        fault("x0;p0 4", 2, 6);
        fault("x0;s0 1000;", 2, 4);
        fault("x0;s5;x", 2, 4);
        fault("x0;c1000;x0;", 2, 4);
        fault("x0;x0;c1000;", 3, 3);
        fault("x0;y;x0;", 1, 3);
    }

    /** "An empty text: no CLAN.", over a CLAN, too; blanks alone are the same. */
    private static void emptyText() {
        for (String text : new String[] {"", " ", " ".repeat(240)}) {
            Cross x = busy();
            check.due("clan() of blanks", Check.tell(x, text), 0);
            check.due("fault() of blanks", x.fault(), NONE);
            for (int what = 0; what <= 9; what++) {
                check.due("told(" + what + ") of blanks", x.told(what), 0);
            }
            check.moreRows("of blanks:", x, "person(0, 0)", UNKNOWN, "paper(0, 0)", UNKNOWN, "candidate(0)", UNKNOWN,
                "year(1)", NOT, "drift(1)", NOT, "undo()", NOT, "goBack(0)", NOT, "goBack(1)", NOT, "heir(0)", NONE,
                "vote(0)", NONE, "most()", 0, "madeBy()", 0, "seed(0)", 77);
        }
    }

    private static Cross busy() {
        Cross x = Check.of("x555;p545 1 0;p957 0 2;s0 446;c500;c555;");
        x.seed(77);
        x.keep(0);
        x.teach(0, 1);
        x.keep(1);
        x.year(3);
        x.sign(1, 9);
        x.see(545);
        x.write(0, 545);
        return x;
    }

    /** Promise 3: "(YEAR 0; nothing SEEN, no BOOK; IMAGES, what could be undone are gone; THE SEED stays)". */
    private static void clanBeginsAnew() {
        Cross x = busy();
        check.moreRows("busy:", x, "told(6)", 3, "told(7)", 1, "told(8)", 1, "told(9)", 2);
        check.due("clan() anew", Check.tell(x, "x1;p2 3 1;s0 4;"), 1);
        check.moreRows("anew:", x, "told(0)", 1, "told(1)", 1, "told(2)", 1, "told(3)", 1, "told(4)", 0, "told(5)", 0,
            "told(6)", 0, "told(7)", 0, "told(8)", 0, "told(9)", 0, "person(0, 0)", 2, "person(0, 1)", 3,
            "person(0, 2)", 1, "person(1, 0)", UNKNOWN, "paper(0, 0)", 4, "paper(1, 0)", UNKNOWN,
            "candidate(0)", UNKNOWN, "undo()", NOT, "goBack(0)", NOT, "goBack(1)", NOT, "judge()", NONE,
            "madeBy()", 1, "seed(0)", 77);
    }

    /** Promise 3: "-10 less the number of its FAULT (all else is as it was)". */
    private static void clanWithFaultLeavesAll() {
        String before = Check.depthsButFault(busy());
        String[] texts = {"p", "x", "x1;p2 3 1;s0 4;c5;q", "x1000;", "x1;p2 3 1;s0 4;c5;s1 0;", "x1;p2 3 1;s0 4;x"};
        int[] due = {-11, -11, -11, -12, -12, -13};
        for (int k = 0; k < texts.length; k++) {
            Cross x = busy();
            check.due("clan() of '" + texts[k] + "'", Check.tell(x, texts[k]), due[k]);
            check.same("a FAULT changed what is so", Check.depthsButFault(x), before);
        }
    }

    /** Promise 4: "The letter of the FAULT of the latest clan(); NONE." */
    private static void latestFault() {
        Cross x = new Cross();
        check.due("fault() at first", x.fault(), NONE);
        check.due("clan()", Check.tell(x, "x0;y"), -11);
        check.moreRows("fault at 3:", x, "fault()", 3, "fault()", 3, "feed(121)", 1, "fault()", 3, "clan()", -11,
            "fault()", 0, "clan()", 0, "fault()", NONE);
        Check.tell(x, "x1000;");
        check.due("fault() of 2", x.fault(), 1);
        Check.tell(x, "x0;p5 0 0;");
        check.due("fault() of a good text", x.fault(), NONE);
        Check.tell(x, "x0;x");
        check.moreRows("fault of 3:", x, "fault()", 3, "year(1)", 1, "undo()", 0, "keep(0)", 1, "goBack(0)", 1,
            "tear()", 0, "fault()", 3);
    }

    /** Promise 5: each of 0 .. 9 at its most; -1 and 10 are OUTSIDE. */
    private static void toldLeastAndMost() {
        Cross x = Check.of("x999;" + "p0 0 0;".repeat(8) + "s0 7;".repeat(7) + "c7;".repeat(4));
        for (int k = 1; k <= 20; k++) {
            x.teach(0, k);
        }
        for (int k = 1; k <= 15; k++) {
            x.see(0);
            x.write(0, 0);
        }
        check.moreRows("much:", x, "sign(0, 0)", 8, "told(0)", 1, "told(1)", 999, "told(2)", 8, "told(3)", 8,
            "told(4)", 4, "told(5)", 0, "told(6)", 0, "told(7)", 8, "told(8)", 15, "told(9)", 20, "told(10)", OUTSIDE,
            "told(-1)", OUTSIDE, "told(-2147483648)", OUTSIDE, "told(2147483647)", OUTSIDE);
        Cross letters = new Cross();
        Check.feedAll(letters, " ".repeat(240));
        check.due("told(5) at its most", letters.told(5), 240);
    }

    /** Promise 6: UNKNOWN ahead of OUTSIDE; APART from 0 to 27. */
    private static void personsAskedFor() {
        check.rows("x999;" + "p999 0 0;".repeat(7) + "p0 0 0;", "person(0, 3)", 0, "person(7, 3)", 27,
            "person(7, 0)", 0, "person(7, 2)", 0, "person(7, 4)", OUTSIDE, "person(7, -1)", OUTSIDE,
            "person(8, 0)", UNKNOWN, "person(8, 4)", UNKNOWN, "person(-1, 0)", UNKNOWN, "person(-1, -1)", UNKNOWN);
        check.rows("x0;p5 1 2;", "person(0, 0)", 5, "person(1, 0)", UNKNOWN);
        check.rows("x0;", "person(0, 0)", UNKNOWN, "person(0, 4)", UNKNOWN);
        check.rows("x500;p100 0 0;p900 0 0;p590 0 0;p509 0 0;", "person(0, 3)", 4, "person(1, 3)", 4,
            "person(2, 3)", 9, "person(3, 3)", 9);
    }

    /** Promise 7: a PAPER that is torn or undone is UNKNOWN again. */
    private static void papersAskedFor() {
        check.rows("x0;p5 0 0;" + "s0 7;".repeat(8), "paper(7, 0)", 7, "paper(7, 1)", 0, "paper(7, 2)", OUTSIDE,
            "paper(7, -1)", OUTSIDE, "paper(8, 0)", UNKNOWN, "paper(8, 2)", UNKNOWN, "paper(-1, 0)", UNKNOWN,
            "paper(-1, -1)", UNKNOWN, "tearPaper()", 7, "paper(7, 0)", UNKNOWN, "paper(7, 2)", UNKNOWN,
            "paper(6, 0)", 7);
        check.rows("x0;p5 0 0;", "paper(0, 0)", UNKNOWN, "sign(0, 0)", 1, "paper(0, 0)", 0, "paper(1, 0)", UNKNOWN,
            "undo()", 0, "paper(0, 0)", UNKNOWN);
    }

    /** Promise 8. */
    private static void candidatesAskedFor() {
        check.rows("x0;c0;c0;c0;c999;", "candidate(0)", 0, "candidate(3)", 999, "candidate(4)", UNKNOWN,
            "candidate(-1)", UNKNOWN);
        check.rows("x0;c9;", "candidate(0)", 9, "candidate(1)", UNKNOWN);
        check.rows("x0;", "candidate(0)", UNKNOWN);
    }
}
