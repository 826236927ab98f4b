/** Promises 1 to 8: a new object, feed, clan, fault, told, person, paper, candidate. */
public final class ClanTest {
    private static final Check check = new Check();

    public static void main(String[] args) {
        newObject();
        feed();
        clan();
        clanForgets();
        faults();
        faultLeavesAll();
        told();
        personPaperCandidate();
        check.end();
    }

    private static void newObject() {
        Cross x = new Cross();
        for (int what = 0; what < 10; what++) {
            check.due("new: told(" + what + ")", x.told(what), 0);
        }
        check.due("new: fault()", x.fault(), Check.NONE);
        check.due("new: person(0, 0)", x.person(0, 0), Check.UNKNOWN);
        check.due("new: paper(0, 0)", x.paper(0, 0), Check.UNKNOWN);
        check.due("new: candidate(0)", x.candidate(0), Check.UNKNOWN);
        check.due("new: seed(0)", x.seed(0), 0);
        check.due("new: goBack(0)", x.goBack(0), Check.NOT);
        check.due("new: undo()", x.undo(), Check.NOT);
    }

    private static void feed() {
        Cross x = new Cross();
        String empty = Check.picture(x);
        check.refused(x, "feed(-1)", x.feed(-1), Check.OUTSIDE, empty);
        check.refused(x, "feed(256)", x.feed(256), Check.OUTSIDE, empty);
        check.refused(x, "feed(min)", x.feed(Integer.MIN_VALUE), Check.OUTSIDE, empty);
        check.due("feed(0)", x.feed(0), 1);
        check.due("feed(255)", x.feed(255), 2);
        for (int k = 3; k <= 240; k++) {
            check.due("feed " + k, x.feed(' '), k);
        }
        String full = Check.picture(x);
        check.refused(x, "feed when full", x.feed(' '), Check.FULL, full);
        check.refused(x, "feed(256) when full", x.feed(256), Check.OUTSIDE, full);
        check.due("clan() of a wrong first letter", x.clan(), -11);
        check.due("fault()", x.fault(), 0);
        check.due("feed behind clan()", x.feed('x'), 1);
    }

    private static void clan() {
        Cross x = new Cross();
        check.due("clan() empty", x.clan(), 0);
        check.due("told(0)", x.told(0), 0);
        check.due("fault()", x.fault(), Check.NONE);
        check.due("clan() with a fault", Check.tell(x, "y"), -11);
        check.due("clan() of one blank", Check.tell(x, " "), 0);
        check.due("told(0)", x.told(0), 0);
        check.due("told(5)", x.told(5), 0);
        check.due("fault() of one blank", x.fault(), Check.NONE);
        check.due("clan() x alone", Check.tell(x, "x7;"), 0);
        check.due("told(0)", x.told(0), 1);
        check.due("told(1)", x.told(1), 7);
        x = new Cross();
        check.due("clan() greatest", Check.tell(x, "x999;p999 3 2;s0 999;c999;"), 1);
        check.due("told(1)", x.told(1), 999);
        check.due("clan() five", Check.tell(x, Check.FIVE), 5);
        check.due("told(5) behind clan()", x.told(5), 0);
        check.due("clan() blanks", Check.tell(x, "  x 012 ; p 9  03 2;s  0 8 ; c007 ;p1 0 0;  "), 2);
        check.due("told(1)", x.told(1), 12);
        check.due("person(0, 0)", x.person(0, 0), 9);
        check.due("person(0, 1)", x.person(0, 1), 3);
        check.due("person(0, 2)", x.person(0, 2), 2);
        check.due("paper(0, 0)", x.paper(0, 0), 8);
        check.due("candidate(0)", x.candidate(0), 7);
        x = new Cross();
        check.due("clan() full", Check.tell(x, "x0;" + "p999 3 2;".repeat(8) + "s7 999;".repeat(8) + "c999;".repeat(4)), 8);
        check.due("told(3)", x.told(3), 8);
        check.due("told(4)", x.told(4), 4);
        check.due("paper(7, 1)", x.paper(7, 1), 7);
        check.due("fault()", x.fault(), Check.NONE);
        String longest = "x1;" + " ".repeat(237);
        check.due("clan() of 240 letters", Check.tell(x, longest), 0);
        check.due("told(1)", x.told(1), 1);
    }

    private static Cross busy() {
        Cross x = Check.of(Check.FIVE);
        x.seed(77);
        x.keep(0);
        x.year(3);
        x.see(545);
        x.write(0, 545);
        return x;
    }

    private static void clanForgets() {
        for (String text : new String[] {"", " ", " ".repeat(240), Check.FIVE}) {
            Cross x = busy();
            check.due("clan()", Check.tell(x, text), text.isBlank() ? 0 : 5);
            check.due("fault()", x.fault(), Check.NONE);
            check.due("told(0)", x.told(0), text.isBlank() ? 0 : 1);
            check.due("told(1)", x.told(1), text.isBlank() ? 0 : 555);
            check.due("told(2)", x.told(2), text.isBlank() ? 0 : 5);
            check.due("told(3)", x.told(3), text.isBlank() ? 0 : 4);
            check.due("told(4)", x.told(4), text.isBlank() ? 0 : 3);
            for (int what = 5; what < 10; what++) {
                check.due("told(" + what + ")", x.told(what), 0);
            }
            check.due("undo()", x.undo(), Check.NOT);
            check.due("goBack(0)", x.goBack(0), Check.NOT);
            check.due("seed(1)", x.seed(1), 77);
        }
    }

    private static void fault(String text, int number, int where) {
        Cross x = new Cross();
        check.due("clan() of '" + text + "'", Check.tell(x, text), -10 - number);
        check.due("fault() of '" + text + "'", x.fault(), where);
        check.due("told(0) of '" + text + "'", x.told(0), 0);
        check.due("told(5) of '" + text + "'", x.told(5), 0);
        check.due("clan() behind '" + text + "'", Check.tell(x, "x1;"), 0);
        check.due("fault() behind a good text", x.fault(), Check.NONE);
    }

    private static void faults() {
        fault("p0 0 0;", 1, 0);
        fault("X0;", 1, 0);
        fault(" s0 0;", 1, 1);
        fault("0;", 1, 0);
        fault(";", 1, 0);
        fault("  ;", 1, 2);
        fault(" " + (char) 9, 1, 1);
        fault("x", 1, 1);
        fault("x ", 1, 2);
        fault("x;", 1, 1);
        fault("x0", 1, 2);
        fault("x0 ", 1, 3);
        fault("x0 0;", 1, 3);
        fault("x0 0000;", 1, 3);
        fault("x0x", 1, 2);
        fault("x-1;", 1, 1);
        fault("x0;;", 1, 3);
        fault("x0;y", 1, 3);
        fault("x0;5", 1, 3);
        fault("x0;p0 0;", 1, 7);
        fault("x0;p0 0 0 0;", 1, 10);
        fault("x0;p0,0 0;", 1, 5);
        fault("x0;p0 0 0", 1, 9);
        fault("x0;p0 0 0;s0;", 1, 12);
        fault("x0;c;", 1, 4);
        fault("x0;" + (char) 160, 1, 3);
        fault("x0;" + (char) 0, 1, 3);
        fault("x1000;", 2, 1);
        fault("x0000", 2, 1);
        fault("x 99999999999999999999;", 2, 2);
        fault("x4294967296;", 2, 1);
        fault("x0;p1000 9 9;", 2, 4);
        fault("x0;p0 4 3;", 2, 6);
        fault("x0;p0 004 0;", 2, 6);
        fault("x0;p0 0000 0;", 2, 6);
        fault("x0;p0 3 3;", 2, 8);
        fault("x0;p0 3 2;s1 0;", 2, 11);
        fault("x0;s0 0;p0 0 0;", 2, 4);
        fault("x0;p0 0 0;s0 1000;", 2, 13);
        fault("x0;c1000;", 2, 4);
        fault("x0;p12 34 0;", 2, 7);
        fault("x0;x", 3, 3);
        fault("x0; x0;", 3, 4);
        fault("x0;p0 0 0;x0;", 3, 10);
        fault("x0;" + "p0 0 0;".repeat(9), 3, 59);
        fault("x0;p0 0 0;" + "s0 0;".repeat(9), 3, 50);
        fault("x0;" + "c0;".repeat(5), 3, 15);
        fault("x0;" + "c0;".repeat(4) + "y", 1, 15);
    }

    private static void faultLeavesAll() {
        Cross x = busy();
        String before = Check.picture(x).replaceAll("fault -?\\d+", "");
        check.due("clan() with a fault", Check.tell(x, "x1;p1 1 1;s0 9;c1;q"), -11);
        check.due("fault()", x.fault(), 18);
        String after = Check.picture(x).replaceAll("fault -?\\d+", "");
        check.holds("a fault leaves all else as it was", before.equals(after));
        check.due("undo() behind a fault", x.undo(), 0);
        check.due("goBack(0) behind a fault", x.goBack(0), 1);
    }

    private static void told() {
        Cross x = busy();
        x.see(1);
        x.see(2);
        x.write(1, 1);
        x.teach(0, 0);
        x.sign(0, 0);
        x.feed('x');
        x.feed('x');
        int[] due = {1, 555, 5, 5, 3, 2, 3, 3, 2, 3};
        for (int what = 0; what < due.length; what++) {
            check.due("told(" + what + ")", x.told(what), due[what]);
        }
        check.due("told(-1)", x.told(-1), Check.OUTSIDE);
        check.due("told(10)", x.told(10), Check.OUTSIDE);
    }

    private static void personPaperCandidate() {
        Cross x = Check.of(Check.FIVE);
        int[][] persons = {{545, 1, 0, 1}, {957, 0, 2, 6}, {346, 2, 1, 4}, {544, 1, 0, 2}, {909, 3, 0, 13}};
        for (int p = 0; p < persons.length; p++) {
            for (int what = 0; what < 4; what++) {
                check.due("person(" + p + ", " + what + ")", x.person(p, what), persons[p][what]);
            }
        }
        check.due("person(5, 0)", x.person(5, 0), Check.UNKNOWN);
        check.due("person(-1, 9)", x.person(-1, 9), Check.UNKNOWN);
        check.due("person(0, 4)", x.person(0, 4), Check.OUTSIDE);
        check.due("person(0, -1)", x.person(0, -1), Check.OUTSIDE);
        int[][] papers = {{446, 0}, {957, 1}, {956, 1}, {555, 3}};
        for (int s = 0; s < papers.length; s++) {
            check.due("paper(" + s + ", 0)", x.paper(s, 0), papers[s][0]);
            check.due("paper(" + s + ", 1)", x.paper(s, 1), papers[s][1]);
        }
        check.due("paper(4, 0)", x.paper(4, 0), Check.UNKNOWN);
        check.due("paper(-1, 2)", x.paper(-1, 2), Check.UNKNOWN);
        check.due("paper(0, 2)", x.paper(0, 2), Check.OUTSIDE);
        check.due("paper(0, -1)", x.paper(0, -1), Check.OUTSIDE);
        check.due("candidate(0)", x.candidate(0), 500);
        check.due("candidate(1)", x.candidate(1), 555);
        check.due("candidate(2)", x.candidate(2), 999);
        check.due("candidate(3)", x.candidate(3), Check.UNKNOWN);
        check.due("candidate(-1)", x.candidate(-1), Check.UNKNOWN);
    }
}
