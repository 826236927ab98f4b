/** Promises 15 to 29: whose, odds, marks, tree, kin, most, clash, forged, makers, heir, sham, love, vote, turned, one. */
public final class TriedTest {
    private static final Check check = new Check();

    public static void main(String[] args) {
        noClan();
        wrongInputs();
        whose();
        odds();
        marks();
        tree();
        kin();
        most();
        clash();
        papers();
        heir();
        sham();
        love();
        vote();
        turned();
        one();
        nothingChanges();
        check.end();
    }

    private static void noClan() {
        for (Cross x : new Cross[] {new Cross(), Check.of("x555;")}) {
            check.due("whose(555)", x.whose(555), 0);
            check.due("odds(0, 555)", x.odds(0, 555), Check.UNKNOWN);
            check.due("marks(0)", x.marks(0), Check.UNKNOWN);
            check.due("tree(NONE)", x.tree(Check.NONE), 0);
            check.due("tree(0)", x.tree(0), Check.NONE);
            check.due("kin(0)", x.kin(0), Check.UNKNOWN);
            check.due("most()", x.most(), 0);
            check.due("clash()", x.clash(), Check.NONE);
            check.due("forged()", x.forged(), 0);
            check.due("makers(0)", x.makers(0), Check.UNKNOWN);
            check.due("heir(60)", x.heir(60), Check.NONE);
            check.due("sham(0)", x.sham(0), Check.UNKNOWN);
            check.due("love(NONE)", x.love(Check.NONE), 0);
            check.due("love(0)", x.love(0), Check.NONE);
            check.due("vote(0)", x.vote(0), Check.NONE);
            check.due("turned(0, 0)", x.turned(0, 0), Check.UNKNOWN);
            check.due("one(0, 1)", x.one(0, 1), Check.UNKNOWN);
        }
    }

    private static void wrongInputs() {
        Cross x = Check.of(Check.FIVE);
        for (int bad : new int[] {-1, 1000, Integer.MAX_VALUE, Integer.MIN_VALUE}) {
            check.due("whose(" + bad + ")", x.whose(bad), Check.OUTSIDE);
            check.due("odds(0, " + bad + ")", x.odds(0, bad), Check.OUTSIDE);
            check.due("vote(" + bad + ")", x.vote(bad), Check.OUTSIDE);
            check.due("turned(" + bad + ", 0)", x.turned(bad, 0), Check.OUTSIDE);
            check.due("odds(" + bad + ", -1)", x.odds(bad, -1), Check.UNKNOWN);
            check.due("marks(" + bad + ")", x.marks(bad), Check.UNKNOWN);
            check.due("kin(" + bad + ")", x.kin(bad), Check.UNKNOWN);
            check.due("makers(" + bad + ")", x.makers(bad), Check.UNKNOWN);
            check.due("heir(" + bad + ")", x.heir(bad), Check.OUTSIDE);
            check.due("sham(" + bad + ")", x.sham(bad), Check.UNKNOWN);
            check.due("turned(-1, " + bad + ")", x.turned(-1, bad), Check.UNKNOWN);
            check.due("one(0, " + bad + ")", x.one(0, bad), Check.UNKNOWN);
            check.due("one(" + bad + ", 0)", x.one(bad, 0), Check.UNKNOWN);
        }
        check.due("odds(5, 0)", x.odds(5, 0), Check.UNKNOWN);
        check.due("marks(5)", x.marks(5), Check.UNKNOWN);
        check.due("kin(5)", x.kin(5), Check.UNKNOWN);
        check.due("makers(4)", x.makers(4), Check.UNKNOWN);
        check.due("heir(61)", x.heir(61), Check.OUTSIDE);
        check.due("sham(5)", x.sham(5), Check.UNKNOWN);
        check.due("turned(0, 3)", x.turned(0, 3), Check.UNKNOWN);
        check.due("one(0, 5)", x.one(0, 5), Check.UNKNOWN);
        check.due("one(1, 1)", x.one(1, 1), Check.UNKNOWN);
        check.due("new: whose(1000)", new Cross().whose(1000), Check.OUTSIDE);
        check.due("new: vote(-1)", new Cross().vote(-1), Check.OUTSIDE);
        check.due("new: heir(61)", new Cross().heir(61), Check.OUTSIDE);
        for (int i : new int[] {-2, 8, Integer.MAX_VALUE, Integer.MIN_VALUE}) {
            check.due("tree(" + i + ")", x.tree(i), Check.NONE);
            check.due("love(" + i + ")", x.love(i), Check.NONE);
        }
    }

    private static void whose() {
        Cross x = Check.of("x0;p555 0 0;p555 1 0;p555 2 0;p555 3 0;");
        check.due("whose(555)", x.whose(555), 15);
        check.due("whose(556)", x.whose(556), 14);
        check.due("whose(375)", x.whose(375), 12);
        check.due("whose(852)", x.whose(852), 8);
        check.due("whose(855)", x.whose(855), 8);
        check.due("whose(955)", x.whose(955), 0);
        check.due("whose(595)", x.whose(595), 0);
        check.due("whose(559)", x.whose(559), 0);
        x.teach(0, 999);
        check.due("whose(999) taught", x.whose(999), 1);
    }

    private static void odds() {
        Cross x = Check.of("x0;p555 0 0;p555 1 0;p555 3 0;p0 3 0;");
        // weights 1000000, 37037, 2915 (of 343), 15625 (of 64)
        check.due("odds(0, 555)", x.odds(0, 555), 1000000L * 1000000 / 1039952);
        check.due("odds(1, 555)", x.odds(1, 555), 37037L * 1000000 / 1039952);
        check.due("odds(2, 555)", x.odds(2, 555), 2915L * 1000000 / 1039952);
        check.due("odds(3, 555)", x.odds(3, 555), 0);
        check.due("odds(3, 222)", x.odds(3, 222), 15625L * 1000000 / 18540);
        check.due("odds(2, 222)", x.odds(2, 222), 2915L * 1000000 / 18540);
        check.due("odds(3, 0)", x.odds(3, 0), 1000000);
        check.due("odds(0, 999)", x.odds(0, 999), 0);
    }

    private static void marks() {
        Cross x = Check.of("x0;p555 0 0;p555 1 0;p555 2 0;p555 3 0;p0 3 0;p999 2 0;p187 2 0;p90 1 0;");
        int[] due = {1, 27, 125, 343, 64, 27, 4 * 4 * 5, 2 * 2 * 2};
        for (int p = 0; p < due.length; p++) {
            check.due("marks(" + p + ")", x.marks(p), due[p]);
        }
    }

    private static void trees(String text, int all, int... pairs) {
        Cross x = Check.of(text);
        check.due("tree(NONE) of " + text, x.tree(Check.NONE), all);
        for (int i = 0; i < pairs.length; i++) {
            check.due("tree(" + i + ") of " + text, x.tree(i), pairs[i]);
        }
        check.due("tree behind the last of " + text, x.tree(pairs.length), Check.NONE);
    }

    private static void tree() {
        trees("x0;p5 0 0;", 0);
        trees("x0;p5 0 0;p15 0 0;", 1, 1);
        trees("x0;p5 0 0;p5 0 0;p5 0 0;", 0, 1, 2);
        trees("x0;p0 0 0;p9 0 0;p2 0 0;p8 0 0;", 9, 13, 2, 23);
        trees("x0;p0 0 0;p1 0 0;p4 0 0;p5 0 0;", 5, 1, 23, 12);
        trees("x0;p0 0 0;p1 0 0;p10 0 0;p11 0 0;", 3, 1, 2, 13);
        trees("x0;p100 0 0;p900 0 0;p300 0 0;p700 0 0;p500 0 0;", 8, 2, 13, 24, 34);
        trees("x0;p0 0 0;p999 0 0;", 27, 1);
        trees("x0;p0 0 0;p3 0 0;p1 0 0;p9 0 0;", 9, 2, 12, 13);
        trees("x0;p2 0 0;p9 0 0;p1 0 0;p5 0 0;p7 0 0;", 8, 2, 14, 34, 3);
    }

    private static void kin() {
        Cross x = Check.of("x0;p555 0 0;p557 0 0;p553 0 0;p999 0 0;p999 0 0;");
        int[] due = {1, 0, 0, 4, 3};
        for (int p = 0; p < due.length; p++) {
            check.due("kin(" + p + ")", x.kin(p), due[p]);
        }
        check.due("kin(0) of one alone", Check.of("x0;p1 0 0;").kin(0), Check.NONE);
        Cross far = Check.of("x0;p0 0 0;p999 0 0;");
        check.due("kin(0) far", far.kin(0), 1);
        check.due("kin(1) far", far.kin(1), 0);
    }

    private static void mostOf(String text, int due) {
        check.due("most() of " + text, Check.of(text).most(), due);
    }

    private static void most() {
        mostOf("x0;p5 3 0;", 1);
        mostOf("x0;p5 3 0;p5 3 0;", 1);
        mostOf("x0;p0 1 0;p2 1 0;", 1);
        mostOf("x0;p0 1 0;p3 1 0;", 3);
        mostOf("x0;p0 1 0;p30 1 0;", 3);
        mostOf("x0;p0 1 0;p300 1 0;", 3);
        mostOf("x0;p4 3 0;p0 0 0;p9 0 0;p5 0 0;", 7);
        mostOf("x0;p4 3 0;p3 0 0;p5 0 0;p9 0 0;", 14);
        mostOf("x0;p9 0 0;p9 0 0;p1 0 0;p1 0 0;", 5);
        mostOf("x0;p0 0 0;p1 0 0;p2 0 0;p3 0 0;p4 0 0;p5 0 0;p6 0 0;p7 0 0;", 255);
    }

    private static void clashOf(String text, int due) {
        check.due("clash() of " + text, Check.of(text).clash(), due);
    }

    private static void clash() {
        clashOf("x0;p5 3 0;", Check.NONE);
        clashOf("x0;p0 1 0;p3 1 0;p6 1 0;", Check.NONE);
        clashOf("x0;p0 1 0;p3 1 0;p5 1 0;", 12);
        clashOf("x0;p0 1 0;p9 3 0;p2 1 0;p9 0 0;", 2);
        clashOf("x0;p0 0 0;p9 0 0;p20 0 0;p300 0 0;p23 3 0;", 4);
        clashOf("x0;p0 0 0;p9 0 0;p20 0 0;p300 0 0;p24 3 0;", Check.NONE);
        clashOf("x0;p0 0 0;p9 0 0;p29 0 0;p69 0 0;p99 3 0;", 34);
    }

    private static void papers() {
        Cross x = Check.of("x0;p555 1 0;p557 1 0;p0 3 0;s0 444;s0 557;s1 556;s2 333;s2 334;s1 555;s0 999;");
        check.due("forged()", x.forged(), 2 | 16 | 32 | 64);
        int[] due = {0, 2, 1, 0, 0, 1, 0};
        for (int s = 0; s < due.length; s++) {
            check.due("makers(" + s + ")", x.makers(s), due[s]);
        }
        x.teach(0, 557);
        check.due("forged() taught", x.forged(), 1 | 16 | 32 | 64);
        check.due("makers(1) taught", x.makers(1), 2);
        x.tearPaper();
        check.due("forged() torn", x.forged(), 1 | 16 | 32);
        x.teach(2, 999);
        check.due("makers(3) with nobody", x.makers(3), 0);
    }

    private static void heir() {
        Cross x = Check.of("x500;p302 0 1;p905 0 2;p501 0 0;p501 0 0;");
        check.due("heir(0)", x.heir(0), 2);
        check.due("heir(2)", x.heir(2), 2);
        Cross y = Check.of("x500;p509 0 0;p208 0 0;p907 0 1;p907 0 2;");
        int[] due = {0, 0, 3};
        for (int n = 0; n < due.length; n++) {
            check.due("heir(" + n + ")", y.heir(n), due[n]);
        }
        check.due("heir(60)", y.heir(60), 0);
        check.due("told(6)", y.told(6), 0);
        Cross odd = Check.of("x500;p501 0 0;p600 0 1;");
        check.due("heir(0) of odd", odd.heir(0), 0);
        check.due("heir(1) in an even year", odd.heir(1), 1);
        odd.year(1);
        odd.teach(1, 600);
        check.due("heir(1) in an odd year", odd.heir(1), 0);
    }

    private static void sham() {
        Cross x = Check.of("x555;p557 0 0;p554 0 0;p995 0 0;p555 0 0;");
        int[] due = {2, 1, 8, 0};
        for (int p = 0; p < due.length; p++) {
            check.due("sham(" + p + ")", x.sham(p), due[p]);
        }
        x.teach(3, 558);
        int[] later = {1, 0, 8, 3};
        for (int p = 0; p < later.length; p++) {
            check.due("sham(" + p + ") later", x.sham(p), later[p]);
        }
        x.teach(0, 555);
        int[] cannot = {0, Check.NONE, Check.NONE, Check.NONE};
        for (int p = 0; p < cannot.length; p++) {
            check.due("sham(" + p + ") of none", x.sham(p), cannot[p]);
        }
        check.due("sham(0) alone", Check.of("x0;p999 0 0;").sham(0), 0);
    }

    private static void love() {
        Cross x = Check.of("x0;p100 0 0;p900 0 0;p901 0 0;p101 0 0;p505 0 0;");
        check.due("love(NONE)", x.love(Check.NONE), 2);
        check.due("love(0)", x.love(0), 3);
        check.due("love(1)", x.love(1), 12);
        check.due("love(2)", x.love(2), Check.NONE);
        Cross same = Check.of("x0;p5 0 0;p5 0 0;p5 0 0;");
        check.due("love(NONE) of the same", same.love(Check.NONE), 1);
        check.due("love(0) of the same", same.love(0), 1);
        check.due("love(NONE) of one alone", Check.of("x0;p5 0 0;").love(Check.NONE), 0);
    }

    private static void vote() {
        Cross x = Check.of("x0;c500;c555;c999;c999;");
        check.due("vote(500)", x.vote(500), 0);
        check.due("vote(550)", x.vote(550), 0);
        check.due("vote(551)", x.vote(551), 1);
        check.due("vote(777)", x.vote(777), 1);
        check.due("vote(778)", x.vote(778), 2);
        check.due("vote(999)", x.vote(999), 2);
        check.due("vote(0)", x.vote(0), 0);
        check.due("vote(0) far", Check.of("x0;c999;").vote(0), 0);
    }

    private static void turned() {
        Cross x = Check.of("x0;c500;c555;c999;c999;");
        check.due("turned(500, 0)", x.turned(500, 0), 0);
        check.due("turned(500, 1)", x.turned(500, 1), 6);
        check.due("turned(555, 0)", x.turned(555, 0), 5);
        check.due("turned(555, 2)", x.turned(555, 2), 7);
        check.due("turned(999, 3)", x.turned(999, 3), Check.NONE);
        check.due("turned(0, 0) alone", Check.of("x0;c999;").turned(0, 0), 0);
        check.due("turned(0, 1) far", Check.of("x0;c998;c999;").turned(0, 1), 9);
    }

    private static void one() {
        Cross x = Check.of("x555;p909 1 2;p506 1 0;p105 0 1;p590 0 0;");
        // PRESSED falls for both alike, so they come nearer only once the lesser one rests at 0.
        check.due("one(0, 1)", x.one(0, 1), 14);
        check.due("one(1, 0)", x.one(1, 0), 14);
        check.due("one(0, 2)", x.one(0, 2), 16);
        check.due("one(0, 3)", x.one(0, 3), Check.NONE);
        x.year(1);
        check.due("one(0, 1) a year later", x.one(0, 1), 13);
        x.year(13);
        check.due("one(0, 1) then", x.one(0, 1), 0);
        Cross lean = Check.of("x555;p905 1 2;p505 0 0;");
        check.due("one(0, 1) by lean", lean.one(0, 1), 2);
        Cross late = Check.of("x0;p9 0 0;p0 0 0;");
        check.due("one(0, 1) late", late.one(0, 1), 18);
        late.year(1);
        check.due("one(0, 1) late, in an odd year", late.one(0, 1), 17);
        late.year(17);
        check.due("one(0, 1) now", late.one(0, 1), 0);
    }

    private static void nothingChanges() {
        Cross x = Check.of(Check.FIVE);
        x.seed(5);
        x.year(1);
        x.see(545);
        String before = Check.picture(x);
        x.whose(545);
        x.odds(0, 545);
        x.marks(0);
        x.tree(Check.NONE);
        x.tree(0);
        x.kin(0);
        x.most();
        x.clash();
        x.forged();
        x.makers(0);
        x.heir(60);
        x.sham(1);
        x.love(0);
        x.vote(545);
        x.turned(545, 2);
        x.one(1, 4);
        x.lookAt();
        x.judge();
        check.holds("what is tried changes nothing", before.equals(Check.picture(x)));
    }
}
