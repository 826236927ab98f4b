/** The boundary cases of what is TRIED, promises 15 to 29, sentence by sentence. */
public final class TriedBoundsTest {
    private static final Check check = new Check();

    private static final int NONE = Check.NONE, UNKNOWN = Check.UNKNOWN, OUTSIDE = Check.OUTSIDE;
    private static final int[] WORTH = {100, 10, 1};

    public static void main(String[] args) {
        passesWithinSlips();
        whoseSets();
        oddsWhole();
        oddsCut();
        marksAtTheEdges();
        treeOfFew();
        treeOfLikeOnes();
        treeNumbers();
        kinOfLikeOnes();
        toldApartWithinSlips();
        mostOfLikeOnes();
        clashIsTheFirst();
        forgedSets();
        makersWithoutHim();
        estateOfLikeOnes();
        heirYears();
        shamOfLikeOnes();
        shamThatCannot();
        loveNumbers();
        voteOfLikeOnes();
        turnedNumbers();
        oneNumbers();
        oneYears();
        triedFromNow();
        check.end();
    }

    /** "A MARK PASSES for a PERSON, if no PART of it is further than SLIPS from that of his MARK." */
    private static void passesWithinSlips() {
        for (int slips = 0; slips <= 3; slips++) {
            Cross x = Check.of("x0;p555 " + slips + " 0;");
            for (int part = 0; part < 3; part++) {
                for (int far = -5; far <= 4; far++) {
                    int mark = 555 + far * WORTH[part];
                    check.due("whose(" + mark + ") with slips " + slips, x.whose(mark), Math.abs(far) <= slips ? 1 : 0);
                }
            }
            int all = 111 * slips;
            check.due("whose() of all least", x.whose(555 - all), 1);
            check.due("whose() of all most", x.whose(555 + all), 1);
            check.due("whose() of two ways", x.whose(555 + 101 * slips - 10 * slips), 1);
        }
    }

    /** Promise 15: a SET, from nobody to all eight; MARKS 0 .. 999. */
    private static void whoseSets() {
        check.rows("x0;" + "p0 0 0;".repeat(8), "whose(0)", 255, "whose(1)", 0, "whose(999)", 0, "whose(-1)", OUTSIDE,
            "whose(1000)", OUTSIDE);
        check.rows("x0;p999 0 0;p0 0 0;p999 3 0;", "whose(999)", 5, "whose(666)", 4, "whose(665)", 0, "whose(0)", 2);
        check.rows("x0;p0 1 0;p900 1 0;p90 1 0;p9 1 0;", "whose(0)", 1, "whose(900)", 2, "whose(90)", 4, "whose(9)", 8,
            "whose(111)", 1, "whose(811)", 2);
        check.rows("x0;", "whose(0)", 0, "whose(-1)", OUTSIDE);
        check.rows("", "whose(0)", 0, "whose(999)", 0, "whose(1000)", OUTSIDE, "whose(-1)", OUTSIDE);
    }

    /** Promise 16: "0, if it does not PASS for him"; a whole MILLION, if it passes for nobody else. */
    private static void oddsWhole() {
        check.rows("x0;p555 3 0;p0 0 0;", "odds(0, 222)", 1000000, "odds(0, 888)", 1000000, "odds(0, 122)", 0,
            "odds(0, 889)", 0, "odds(0, 0)", 0, "odds(1, 0)", 1000000, "odds(1, 1)", 0, "odds(1, 999)", 0,
            "odds(0, 999)", 0, "odds(1, 1000)", OUTSIDE, "odds(1, -1)", OUTSIDE, "odds(2, 0)", UNKNOWN,
            "odds(-1, 0)", UNKNOWN, "odds(2, 1000)", UNKNOWN, "odds(-1, -1)", UNKNOWN);
        check.rows("x0;" + "p5 0 0;".repeat(8), "odds(7, 5)", 125000, "odds(0, 5)", 125000, "odds(8, 5)", UNKNOWN);
    }

    /** "a MILLION / how many MARKS PASS for him (cut)"; "his WEIGHT times a MILLION / that of all ... (cut)". */
    private static void oddsCut() {
        check.rows("x0;p5 0 0;p5 0 0;p5 0 0;", "odds(0, 5)", 333333, "odds(2, 5)", 333333);
        // 1000000 and 1000000 / 343 = 2915: 1000000 of 1002915 is 997093.47, 2915 of it 2906.52.
        check.rows("x0;p555 0 0;p555 3 0;", "odds(0, 555)", 997093, "odds(1, 555)", 2906);
        // 1000000 / 27 = 37037 and 1000000 / 125 = 8000: 37037 of 45037 is 822368.27; uncut it were 822368.42.
        check.rows("x0;p555 1 0;p555 2 0;", "odds(0, 555)", 822368, "odds(1, 555)", 177631);
        // 1000000 / 64 = 15625 at the corner, 1000000 / 18 = 55555 at an edge: 15625 of 71180 is 219513.90.
        check.rows("x0;p0 3 0;p110 1 0;", "marks(1)", 18, "odds(0, 0)", 219513, "odds(1, 0)", 780486);
        // 1000000 / 343 = 2915 twice and 8000: 2915 of 13830 is 210773.68, with weights uncut 210779.
        check.rows("x0;p555 3 0;p555 3 0;p555 2 0;", "odds(0, 555)", 210773, "odds(2, 555)", 578452);
    }

    /** Promise 17: "how many of all": no PART below 0 or above 9. */
    private static void marksAtTheEdges() {
        for (int slips = 0; slips <= 3; slips++) {
            for (int figure = 0; figure <= 9; figure++) {
                int wide = 0;
                for (int other = 0; other <= 9; other++) {
                    wide += Math.abs(other - figure) <= slips ? 1 : 0;
                }
                int middle = 2 * slips + 1;
                for (int worth : WORTH) {
                    Cross x = Check.of("x0;p" + (444 - 4 * worth + figure * worth) + " " + slips + " 0;");
                    check.due("marks(0) at " + figure + " with " + slips, x.marks(0), wide * middle * middle);
                }
            }
        }
        check.rows("x0;p0 3 0;p999 3 0;p0 0 0;p555 3 0;", "marks(0)", 64, "marks(1)", 64, "marks(2)", 1,
            "marks(3)", 343, "marks(4)", UNKNOWN, "marks(-1)", UNKNOWN);
        check.rows("", "marks(0)", UNKNOWN);
    }

    /** Promise 18: nobody and one alone have nothing to join. */
    private static void treeOfFew() {
        for (String text : new String[] {"", "x0;", "x0;p5 0 0;"}) {
            check.rows(text, "tree(-1)", 0, "tree(0)", NONE, "tree(1)", NONE, "tree(2147483647)", NONE);
        }
        check.rows("x0;p0 0 0;p999 0 0;", "tree(-1)", 27, "tree(0)", 1, "tree(1)", NONE);
        check.rows("x0;p5 0 0;p5 0 0;", "tree(-1)", 0, "tree(0)", 1, "tree(1)", NONE);
    }

    /** "the least APART first, of like ones the lesser", "if it joins two that do not hang together yet". */
    private static void treeOfLikeOnes() {
        check.rows("x0;" + "p5 0 0;".repeat(8), "tree(-1)", 0, "tree(0)", 1, "tree(1)", 2, "tree(5)", 6, "tree(6)", 7,
            "tree(7)", NONE);
        // A square: four sides of 1, of which the last by number would close the round.
        check.rows("x0;p0 0 0;p1 0 0;p11 0 0;p10 0 0;", "tree(-1)", 3, "tree(0)", 1, "tree(1)", 3, "tree(2)", 12,
            "tree(3)", NONE);
        // 23 and 01 are 1 apart, 12 is 2, 03 is 4: the lesser number first, then the lesser way.
        check.rows("x0;p0 0 0;p1 0 0;p3 0 0;p4 0 0;", "tree(-1)", 4, "tree(0)", 1, "tree(1)", 23, "tree(2)", 12,
            "tree(3)", NONE);
        // 13 is nearest though 01 is the lesser number; then 01 (3) is taken ahead of 03 (4).
        check.rows("x0;p0 0 0;p3 0 0;p9 0 0;p4 0 0;", "tree(-1)", 9, "tree(0)", 13, "tree(1)", 1, "tree(2)", 23,
            "tree(3)", NONE);
        // Two that hang together by a third are not joined once more, though they are nearer than the fourth.
        check.rows("x0;p0 0 0;p2 0 0;p1 0 0;p9 0 0;", "tree(-1)", 9, "tree(0)", 2, "tree(1)", 12, "tree(2)", 13,
            "tree(3)", NONE);
    }

    /** "the i-th pair as taken; NONE", for eight as well. */
    private static void treeNumbers() {
        check.rows("x0;p7 0 0;p6 0 0;p5 0 0;p4 0 0;p3 0 0;p2 0 0;p1 0 0;p0 0 0;", "tree(-1)", 7, "tree(0)", 1,
            "tree(1)", 12, "tree(2)", 23, "tree(3)", 34, "tree(4)", 45, "tree(5)", 56, "tree(6)", 67, "tree(7)", NONE,
            "tree(-2)", NONE, "tree(-2147483648)", NONE, "tree(2147483647)", NONE);
    }

    /** Promise 19: "of like ones the least; NONE: nobody else." */
    private static void kinOfLikeOnes() {
        check.rows("x0;p5 0 0;", "kin(0)", NONE, "kin(1)", UNKNOWN, "kin(-1)", UNKNOWN);
        check.rows("x0;p5 0 0;p3 0 0;p7 0 0;", "kin(0)", 1, "kin(1)", 0, "kin(2)", 0, "kin(3)", UNKNOWN);
        check.rows("x0;p3 0 0;p7 0 0;p5 0 0;", "kin(2)", 0, "kin(0)", 2, "kin(1)", 2);
        check.rows("x0;p0 0 0;p999 0 0;", "kin(0)", 1, "kin(1)", 0);
        check.rows("x0;p9 0 0;p5 0 0;p5 0 0;p5 0 0;", "kin(0)", 1, "kin(1)", 2, "kin(2)", 1, "kin(3)", 1);
        check.rows("x0;" + "p5 0 0;".repeat(8), "kin(0)", 1, "kin(7)", 0, "kin(8)", UNKNOWN);
        check.rows("", "kin(0)", UNKNOWN);
    }

    /** "TOLD APART are two PERSONS, if no MARK PASSES for both": in each PART as far as both SLIPS reach. */
    private static void toldApartWithinSlips() {
        for (int slips = 0; slips <= 3; slips++) {
            for (int others = 0; others <= 3; others++) {
                for (int worth : WORTH) {
                    int reach = slips + others;
                    String near = "x0;p0 " + slips + " 0;p" + reach * worth + " " + others + " 0;";
                    String far = "x0;p0 " + slips + " 0;p" + (reach + 1) * worth + " " + others + " 0;";
                    check.rows(near, "clash()", 1, "most()", 1, "one(0, 1)", 0);
                    check.rows(far, "clash()", NONE, "most()", 3);
                }
            }
        }
    }

    /** Promise 20: "(a SET; of like ones the least)". */
    private static void mostOfLikeOnes() {
        check.rows("", "most()", 0);
        check.rows("x0;", "most()", 0);
        check.rows("x0;p5 3 0;", "most()", 1);
        check.rows("x0;" + "p5 0 0;".repeat(8), "most()", 1);
        // 0 and 3 are told apart, 1 and 2 are, nobody else: 6 is less than 9.
        check.rows("x0;p350 1 0;p530 1 0;p560 1 0;p650 1 0;", "most()", 6);
        // 0 and 1, 2 and 3: 3 is less than 12.
        check.rows("x0;p350 1 0;p650 1 0;p530 1 0;p560 1 0;", "most()", 3);
        check.rows("x0;p555 3 0;p0 0 0;p999 0 0;p555 3 0;", "most()", 7);
        check.rows("x0;p555 3 0;p555 3 0;p0 0 0;p999 0 0;", "most()", 13);
        check.rows("x0;p0 0 0;p1 0 0;p2 0 0;p3 0 0;p4 0 0;p5 0 0;p6 0 0;p7 0 0;", "most()", 255);
        check.rows("x0;p5 3 0;p9 0 0;p8 0 0;", "most()", 3);
        check.rows("x0;p5 3 0;p8 0 0;p9 0 0;", "most()", 5);
        check.rows("x0;p5 3 0;p8 0 0;p7 0 0;", "most()", 6);
    }

    /** Promise 21: "the first pair (10 times the lesser and the other) that are not; NONE." */
    private static void clashIsTheFirst() {
        check.rows("", "clash()", NONE);
        check.rows("x0;", "clash()", NONE);
        check.rows("x0;p5 3 0;", "clash()", NONE);
        check.rows("x0;" + "p5 0 0;".repeat(8), "clash()", 1);
        check.rows("x0;p0 0 0;p5 0 0;p5 0 0;p0 0 0;", "clash()", 3);
        check.rows("x0;p9 0 0;p5 0 0;p5 0 0;p0 0 0;p5 0 0;", "clash()", 12);
        check.rows("x0;p0 0 0;p1 0 0;p2 0 0;p3 0 0;p4 0 0;p5 0 0;p6 0 0;p6 0 0;", "clash()", 67);
        check.rows("x0;p0 0 0;p1 0 0;p2 0 0;p3 0 0;p4 0 0;p5 0 0;p6 0 0;p0 0 0;", "clash()", 7);
        check.rows("x0;p0 0 0;p1 0 0;p2 0 0;p3 0 0;p4 0 0;p5 0 0;p6 0 0;p7 0 0;", "clash()", NONE);
    }

    /** Promise 22: a SET, from none to all eight; SLIPS as far as they go. */
    private static void forgedSets() {
        check.rows("", "forged()", 0);
        check.rows("x0;p5 0 0;", "forged()", 0);
        check.rows("x0;p555 1 0;" + "s0 446;".repeat(8), "forged()", 0);
        check.rows("x0;p555 1 0;" + "s0 447;".repeat(8), "forged()", 255);
        check.rows("x0;p555 2 0;s0 333;s0 777;s0 332;s0 778;s0 255;s0 595;s0 557;s0 558;", "forged()",
            4 | 8 | 16 | 32 | 128);
        check.rows("x0;p5 0 0;p6 0 0;s0 5;s1 5;", "forged()", 2, "teach(1, 5)", 1, "forged()", 0, "teach(0, 4)", 1,
            "forged()", 1, "tearPaper()", 5, "forged()", 1, "tearPaper()", 5, "forged()", 0);
    }

    /** Promise 23: "WHOSE its MARK is, without him." */
    private static void makersWithoutHim() {
        check.rows("x0;" + "p5 0 0;".repeat(8) + "s7 5;s0 5;s7 6;", "makers(0)", 127, "makers(1)", 254, "makers(2)", 0,
            "makers(3)", UNKNOWN, "makers(-1)", UNKNOWN);
        check.rows("x0;p5 0 0;p9 0 0;s0 9;s1 9;s0 7;", "makers(0)", 2, "makers(1)", 0, "makers(2)", 0);
        check.rows("x0;p5 0 0;" + "s0 5;".repeat(8), "makers(7)", 0, "makers(8)", UNKNOWN);
        check.rows("x0;p5 0 0;", "makers(0)", UNKNOWN, "sign(0, 5)", 1, "makers(0)", 0, "makers(1)", UNKNOWN);
        check.rows("", "makers(0)", UNKNOWN);
    }

    /** "ESTATE ... of like ones the least PERSON; NONE." */
    private static void estateOfLikeOnes() {
        check.rows("", "heir(0)", NONE, "heir(60)", NONE);
        check.rows("x0;", "heir(0)", NONE, "heir(60)", NONE);
        check.rows("x0;p999 0 0;", "heir(0)", 0);
        check.rows("x555;p556 0 0;p545 0 0;p655 0 0;", "heir(0)", 0);
        check.rows("x555;p557 0 0;p545 0 0;p655 0 0;", "heir(0)", 1);
        check.rows("x555;p557 0 0;p545 0 0;p555 0 0;p555 0 0;", "heir(0)", 2);
        check.rows("x0;p999 0 0;p999 0 0;p998 0 0;", "heir(0)", 2);
    }

    /** Promise 24: "behind n YEARS (0 .. 60)". */
    private static void heirYears() {
        check.rows("x500;p502 0 0;p900 0 1;", "heir(-1)", OUTSIDE, "heir(0)", 0, "heir(1)", 0, "heir(2)", 0,
            "heir(3)", 0, "heir(4)", 0, "heir(60)", 0, "heir(61)", OUTSIDE, "told(6)", 0);
        // 1 is 4, 3, 2, 1 and 0 away; 0 is 9, 9, 8, 8, 7 and so on: both are there in the 18th year.
        check.rows("x500;p509 0 0;p900 0 1;", "heir(0)", 1, "heir(17)", 1, "heir(18)", 0, "heir(60)", 0);
        // Both go 1 a year, and 0 has PRESSED 1 less behind each second one.
        check.rows("x0;p902 0 1;p900 0 1;", "heir(0)", 1, "heir(3)", 1, "heir(4)", 0, "year(1)", 1, "heir(2)", 1,
            "heir(3)", 0, "year(3)", 4, "heir(0)", 0);
        check.rows("", "heir(-1)", OUTSIDE, "heir(61)", OUTSIDE);
    }

    /** Promise 25: "0, if he has"; the least PERSON of like ones must only come as near. */
    private static void shamOfLikeOnes() {
        check.rows("x0;p999 0 0;", "sham(0)", 0, "sham(1)", UNKNOWN, "sham(-1)", UNKNOWN);
        check.rows("x555;p558 0 0;p557 0 0;", "sham(0)", 1, "sham(1)", 0);
        check.rows("x555;p557 0 0;p558 0 0;", "sham(0)", 0, "sham(1)", 2);
        check.rows("x555;p556 0 0;p556 0 0;p565 0 0;", "sham(0)", 0, "sham(1)", 1, "sham(2)", 1);
        check.rows("x0;p999 0 0;p0 0 0;p999 0 0;", "sham(0)", 27, "sham(1)", 0, "sham(2)", NONE);
        check.rows("x0;p3 0 0;p2 0 0;p4 0 0;p1 0 0;p9 0 0;", "sham(0)", 2, "sham(1)", 1, "sham(2)", 3, "sham(3)", 0,
            "sham(4)", 9);
        check.rows("", "sham(0)", UNKNOWN);
    }

    /** "NONE: he cannot": one ahead of him has the grandfather's own MARK. */
    private static void shamThatCannot() {
        check.rows("x555;p555 0 0;p555 0 0;p556 0 0;", "sham(0)", 0, "sham(1)", NONE, "sham(2)", NONE);
        check.rows("x555;p556 0 0;p555 0 0;p555 0 0;", "sham(0)", 1, "sham(1)", 0, "sham(2)", NONE);
        check.rows("x555;p556 0 0;p556 0 0;", "sham(1)", 1, "teach(0, 555)", 1, "sham(1)", NONE, "undo()", 0,
            "sham(1)", 1);
        check.rows("x0;" + "p0 0 0;".repeat(8), "sham(7)", NONE, "sham(0)", 0, "sham(8)", UNKNOWN);
    }

    /** Promise 26: "how many; the i-th (10 times the lesser and the other; rising); NONE." */
    private static void loveNumbers() {
        for (String text : new String[] {"", "x0;", "x0;p5 0 0;"}) {
            check.rows(text, "love(-1)", 0, "love(0)", NONE, "love(2147483647)", NONE);
        }
        check.rows("x0;p0 0 0;p999 0 0;", "love(-1)", 1, "love(0)", 1, "love(1)", NONE);
        check.rows("x0;" + "p5 0 0;".repeat(8), "love(-1)", 1, "love(0)", 1, "love(1)", NONE);
        check.rows("x0;p0 0 0;p300 0 0;p600 0 0;p900 0 0;p901 0 0;p601 0 0;p301 0 0;p1 0 0;", "love(-1)", 4,
            "love(0)", 7, "love(1)", 16, "love(2)", 25, "love(3)", 34, "love(4)", NONE, "love(-2)", NONE,
            "love(-2147483648)", NONE);
        // 2 is nearest to 1, but 1 to 0.
        check.rows("x0;p0 0 0;p2 0 0;p5 0 0;", "love(-1)", 1, "love(0)", 1, "love(1)", NONE);
    }

    /** Promise 27: "of like ones the least; NONE: no CANDIDATES." */
    private static void voteOfLikeOnes() {
        check.rows("", "vote(0)", NONE, "vote(999)", NONE, "vote(-1)", OUTSIDE, "vote(1000)", OUTSIDE);
        check.rows("x0;p5 0 0;", "vote(5)", NONE, "vote(1000)", OUTSIDE);
        check.rows("x0;c999;", "vote(0)", 0, "vote(999)", 0, "vote(-1)", OUTSIDE, "vote(1000)", OUTSIDE);
        check.rows("x0;c3;c7;c5;c5;", "vote(5)", 2, "vote(4)", 0, "vote(6)", 1, "vote(0)", 0, "vote(9)", 1);
        check.rows("x0;c9;c9;c9;c0;", "vote(9)", 0, "vote(4)", 3, "vote(5)", 0, "vote(0)", 3);
    }

    /** Promise 28: "0, if it is; NONE: by none"; UNKNOWN ahead of OUTSIDE. */
    private static void turnedNumbers() {
        // A MARK whose PARTS are 14 together is nearer to 999 than to 0, and like near to 999 and 1: 1 is ahead of 3.
        check.rows("x0;c0;c999;c0;c1;", "turned(0, 0)", 0, "turned(0, 2)", NONE, "turned(999, 2)", NONE,
            "turned(0, 3)", 1, "turned(999, 1)", 0, "turned(0, 1)", 14, "turned(999, 3)", 14, "turned(999, 0)", 14,
            "turned(0, 4)", UNKNOWN, "turned(0, -1)", UNKNOWN, "turned(1000, 0)", OUTSIDE, "turned(-1, 3)", OUTSIDE,
            "turned(1000, 4)", UNKNOWN, "turned(-1, -1)", UNKNOWN);
        check.rows("x0;c0;c999;", "turned(0, 1)", 14, "turned(999, 0)", 14);
        check.rows("x0;c999;c0;", "turned(999, 1)", 14, "turned(0, 0)", 14);
        check.rows("x0;c0;c1;", "turned(0, 1)", 1, "turned(1, 0)", 1, "turned(9, 0)", 9);
        check.rows("x0;c0;c2;", "turned(0, 1)", 2, "turned(2, 0)", 1);
        check.rows("x0;c5;", "turned(999, 0)", 0, "turned(0, 0)", 0);
        check.rows("", "turned(0, 0)", UNKNOWN, "turned(1000, 0)", UNKNOWN);
    }

    /** Promise 29: "UNKNOWN (a PERSON ... that there is not; one twice, where two are asked)". */
    private static void oneNumbers() {
        check.rows("x0;" + "p5 0 0;".repeat(8), "one(0, 7)", 0, "one(7, 0)", 0, "one(0, 8)", UNKNOWN,
            "one(8, 0)", UNKNOWN, "one(0, -1)", UNKNOWN, "one(-1, 0)", UNKNOWN, "one(0, 0)", UNKNOWN,
            "one(7, 7)", UNKNOWN, "one(8, 8)", UNKNOWN, "one(-1, -1)", UNKNOWN);
        check.rows("x0;p5 0 0;", "one(0, 1)", UNKNOWN, "one(1, 0)", UNKNOWN, "one(0, 0)", UNKNOWN);
        check.rows("", "one(0, 1)", UNKNOWN, "one(0, 0)", UNKNOWN);
    }

    /** "behind how many YEARS (0 .. 60) two PERSONS are not TOLD APART first; NONE." */
    private static void oneYears() {
        check.rows("x0;p9 0 0;p0 0 0;", "one(0, 1)", 18, "one(1, 0)", 18, "year(17)", 17, "one(0, 1)", 1, "year(1)", 18,
            "one(0, 1)", 0, "year(60)", 78, "one(0, 1)", 0);
        check.rows("x0;p900 0 1;p0 0 0;", "one(0, 1)", 9, "year(8)", 8, "one(0, 1)", 1);
        check.rows("x0;p900 0 2;p0 0 0;", "one(0, 1)", 5);
        check.rows("x900;p900 0 1;p0 0 1;", "one(0, 1)", 9);
        check.rows("x0;p90 0 2;p0 0 2;", "one(0, 1)", NONE);
        check.rows("x0;p70 3 2;p0 3 2;", "one(0, 1)", NONE);
        check.rows("x0;p60 3 2;p0 3 2;", "one(0, 1)", 0);
        check.rows("x0;p900 0 0;p0 0 0;", "one(0, 1)", NONE, "year(60)", 60, "one(0, 1)", NONE);
        // They meet behind one YEAR and part again behind the next: the first time counts.
        check.rows("x900;p200 0 2;p400 0 0;", "one(0, 1)", 1, "year(1)", 1, "one(0, 1)", 0, "year(1)", 2,
            "one(0, 1)", NONE);
    }

    /** "TRIED from now": by MARKS as they have become. */
    private static void triedFromNow() {
        check.rows("x0;p900 0 2;p500 0 0;s0 900;c5;", "year(2)", 2, "whose(900)", 0, "whose(500)", 3, "clash()", 1,
            "most()", 1, "tree(-1)", 0, "forged()", 1, "makers(0)", 0, "odds(0, 500)", 500000, "sham(1)", 1,
            "heir(0)", 0, "undo()", 0, "whose(900)", 1, "clash()", NONE, "most()", 3, "tree(-1)", 4, "forged()", 0,
            "heir(0)", 1, "sham(0)", 4, "one(0, 1)", 2);
    }
}
