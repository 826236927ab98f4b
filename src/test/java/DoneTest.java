/** Promises 9 to 14: year, teach, sign, tearPaper, drift, undo. */
public final class DoneTest {
    private static final Check check = new Check();

    public static void main(String[] args) {
        year();
        yearsAreFull();
        teach();
        sign();
        tearPaper();
        drift();
        undo();
        undoKeepsTwenty();
        check.end();
    }

    private static void year() {
        Cross x = new Cross();
        String empty = Check.picture(x);
        check.refused(x, "year(1), no clan", x.year(1), Check.NOT, empty);
        check.refused(x, "year(0), no clan", x.year(0), Check.OUTSIDE, empty);
        Check.tell(x, "x555;p909 0 2;p109 0 2;p401 0 1;p680 0 1;p990 0 0;");
        String before = Check.picture(x);
        check.refused(x, "year(0)", x.year(0), Check.OUTSIDE, before);
        check.refused(x, "year(61)", x.year(61), Check.OUTSIDE, before);
        check.refused(x, "year(-1)", x.year(-1), Check.OUTSIDE, before);
        int[][] marks = {
            {709, 309, 501, 580, 990}, {508, 508, 500, 580, 990}, {508, 508, 500, 580, 990}, {507, 507, 500, 580, 990}};
        for (int y = 0; y < marks.length; y++) {
            check.due("year(1)", x.year(1), y + 1);
            for (int p = 0; p < 5; p++) {
                check.due("person(" + p + ", 0) in year " + (y + 1), x.person(p, 0), marks[y][p]);
            }
        }
        check.due("year(60)", x.year(60), 64);
        check.due("person(0, 0)", x.person(0, 0), 500);
        Cross parts = Check.of("x369;p999 0 2;p0 0 2;");
        parts.year(4);
        check.due("person(0, 0) towards 3", parts.person(0, 0), 397);
        check.due("person(1, 0) towards 3", parts.person(1, 0), 300);
        Cross nobody = Check.of("x1;");
        check.due("year(60) of nobody", nobody.year(60), 60);
        check.due("told(9)", nobody.told(9), 1);
    }

    private static void yearsAreFull() {
        Cross x = Check.of("x555;p909 0 2;");
        for (int k = 1; k <= 150; k++) {
            check.due("year(60)", x.year(60), 60 * k);
        }
        check.due("year(1) in 9000", x.year(1), 9001);
        String before = Check.picture(x);
        check.refused(x, "year(1) in 9001", x.year(1), Check.FULL, before);
        check.refused(x, "year(61) in 9001", x.year(61), Check.OUTSIDE, before);
        check.due("heir(60) in 9001", x.heir(60), 0);
        check.due("undo()", x.undo(), 19);
        check.due("year(60) in 9000", x.year(60), 9060);
        check.due("year(60) in 9060", x.year(60), Check.FULL);
    }

    private static void teach() {
        Cross x = Check.of(Check.FIVE);
        String before = Check.picture(x);
        check.refused(x, "teach(5, 0)", x.teach(5, 0), Check.UNKNOWN, before);
        check.refused(x, "teach(-1, 1000)", x.teach(-1, 1000), Check.UNKNOWN, before);
        check.refused(x, "teach(0, 1000)", x.teach(0, 1000), Check.OUTSIDE, before);
        check.refused(x, "teach(0, -1)", x.teach(0, -1), Check.OUTSIDE, before);
        check.due("teach(0, 999)", x.teach(0, 999), 13);
        check.due("person(0, 0)", x.person(0, 0), 999);
        check.due("teach(0, 0)", x.teach(0, 0), 27);
        check.due("teach(0, 0) again", x.teach(0, 0), 0);
        check.due("told(9)", x.told(9), 3);
        check.due("person(0, 1)", x.person(0, 1), 1);
        check.due("person(1, 0)", x.person(1, 0), 957);
    }

    private static void sign() {
        Cross x = Check.of(Check.FIVE);
        String before = Check.picture(x);
        check.refused(x, "sign(5, 0)", x.sign(5, 0), Check.UNKNOWN, before);
        check.refused(x, "sign(-1, -1)", x.sign(-1, -1), Check.UNKNOWN, before);
        check.refused(x, "sign(0, 1000)", x.sign(0, 1000), Check.OUTSIDE, before);
        check.refused(x, "sign(0, -1)", x.sign(0, -1), Check.OUTSIDE, before);
        x = Check.of(Check.FIVE);
        for (int k = 5; k <= 8; k++) {
            check.due("sign(4, 990 + k)", x.sign(4, 990 + k), k);
            check.due("paper(k - 1, 0)", x.paper(k - 1, 0), 990 + k);
            check.due("paper(k - 1, 1)", x.paper(k - 1, 1), 4);
        }
        String full = Check.picture(x);
        check.refused(x, "sign(0, 0) full", x.sign(0, 0), Check.FULL, full);
        check.refused(x, "sign(5, 0) full", x.sign(5, 0), Check.UNKNOWN, full);
        check.refused(x, "sign(0, 1000) full", x.sign(0, 1000), Check.OUTSIDE, full);
    }

    private static void tearPaper() {
        Cross x = Check.of(Check.FIVE);
        int[] marks = {555, 956, 957, 446};
        for (int k = 0; k < 4; k++) {
            check.due("tearPaper()", x.tearPaper(), marks[k]);
            check.due("told(3)", x.told(3), 3 - k);
            check.due("paper gone", x.paper(3 - k, 0), Check.UNKNOWN);
        }
        String before = Check.picture(x);
        check.refused(x, "tearPaper() of none", x.tearPaper(), Check.NOT, before);
        check.due("undo()", x.undo(), 3);
        check.due("paper(0, 0)", x.paper(0, 0), 446);
        check.due("paper(0, 1)", x.paper(0, 1), 0);
    }

    /** Shakes one by one, with the document's own draws. */
    private static int[] shaken(int[] marks, long seed, int n) {
        int[] out = marks.clone();
        int[] worth = {100, 10, 1};
        for (int k = 0; k < n; k++) {
            seed = (seed * 1103515245L + 12345L) % (1L << 31);
            int p = (int) (seed / 65536 % out.length);
            seed = (seed * 1103515245L + 12345L) % (1L << 31);
            int part = (int) (seed / 65536 % 3);
            seed = (seed * 1103515245L + 12345L) % (1L << 31);
            boolean more = seed / 65536 % 2 == 1;
            int figure = out[p] / worth[part] % 10;
            if (more && figure < 9) {
                out[p] += worth[part];
            } else if (!more && figure > 0) {
                out[p] -= worth[part];
            }
        }
        return out;
    }

    private static void drift() {
        Cross x = new Cross();
        String empty = Check.picture(x);
        check.refused(x, "drift(1), no clan", x.drift(1), Check.NOT, empty);
        check.refused(x, "drift(61), no clan", x.drift(61), Check.OUTSIDE, empty);
        Check.tell(x, "x555;p0 0 0;p999 0 0;p90 1 2;");
        String before = Check.picture(x);
        check.refused(x, "drift(0)", x.drift(0), Check.OUTSIDE, before);
        check.refused(x, "drift(61)", x.drift(61), Check.OUTSIDE, before);
        for (int seed : new int[] {0, 1, 77, 2147483647, 123456789}) {
            for (int n : new int[] {1, 2, 7, 60}) {
                Cross y = Check.of("x555;p0 0 0;p999 0 0;p90 1 2;");
                y.seed(seed);
                int[] due = shaken(new int[] {0, 999, 90}, seed, n);
                int others = (due[0] != 0 ? 1 : 0) + (due[1] != 999 ? 1 : 0) + (due[2] != 90 ? 1 : 0);
                check.due("drift(" + n + ") of seed " + seed, y.drift(n), others);
                for (int p = 0; p < 3; p++) {
                    check.due("person(" + p + ", 0)", y.person(p, 0), due[p]);
                }
                check.due("told(6)", y.told(6), 0);
            }
        }
        Cross nobody = Check.of("x555;");
        nobody.seed(9);
        check.due("drift(60) of nobody", nobody.drift(60), 0);
        check.due("told(9)", nobody.told(9), 1);
        check.due("seed(9)", nobody.seed(9), 9);
    }

    private static void undo() {
        Cross x = Check.of(Check.FIVE);
        String before = Check.picture(x);
        check.refused(x, "undo() of none", x.undo(), Check.NOT, before);
        x.year(5);
        x.teach(1, 123);
        x.sign(1, 321);
        x.tearPaper();
        x.tearPaper();
        x.drift(60);
        int seed = x.seed(0);
        x.seed(seed);
        x.year(0);
        x.teach(0, 1000);
        x.sign(9, 0);
        check.due("told(9): what is refused is not undone", x.told(9), 6);
        check.due("undo() of drift", x.undo(), 5);
        check.due("person(1, 0)", x.person(1, 0), 123);
        check.due("told(3)", x.told(3), 3);
        check.due("undo() of tearPaper", x.undo(), 4);
        check.due("told(3)", x.told(3), 4);
        check.due("paper(3, 0)", x.paper(3, 0), 555);
        check.due("undo() of tearPaper", x.undo(), 3);
        check.due("paper(4, 0)", x.paper(4, 0), 321);
        check.due("paper(4, 1)", x.paper(4, 1), 1);
        check.due("undo() of sign", x.undo(), 2);
        check.due("told(3)", x.told(3), 4);
        check.due("undo() of teach", x.undo(), 1);
        check.due("person(1, 0)", x.person(1, 0), 555);
        check.due("told(6)", x.told(6), 5);
        check.due("undo() of year", x.undo(), 0);
        check.due("told(6)", x.told(6), 0);
        check.due("person(1, 0)", x.person(1, 0), 957);
        check.due("seed stays", x.seed(0), seed);
        check.due("undo() of none", x.undo(), Check.NOT);
        x.see(1);
        x.write(0, 0);
        x.seed(3);
        check.due("these are not undone", x.undo(), Check.NOT);
    }

    private static void undoKeepsTwenty() {
        Cross x = Check.of("x555;p0 0 0;");
        for (int k = 1; k <= 47; k++) {
            x.teach(0, k);
            check.due("told(9)", x.told(9), Math.min(k, 20));
        }
        for (int k = 46; k >= 27; k--) {
            check.due("undo()", x.undo(), k - 27);
            check.due("person(0, 0)", x.person(0, 0), k);
        }
        check.due("undo() behind twenty", x.undo(), Check.NOT);
        check.due("person(0, 0)", x.person(0, 0), 27);
    }
}
