/** Promises 30 to 38: see, madeBy, lookAt, write, tear, judge, seed, keep, goBack. */
public final class SeenTest {
    private static final Check check = new Check();

    public static void main(String[] args) {
        see();
        madeBy();
        lookAt();
        write();
        tear();
        judge();
        seed();
        images();
        imagesHoldAll();
        check.end();
    }

    private static void see() {
        for (Cross x : new Cross[] {new Cross(), Check.of(Check.FIVE)}) {
            String before = Check.picture(x);
            check.refused(x, "see(1000)", x.see(1000), Check.OUTSIDE, before);
            check.refused(x, "see(-1)", x.see(-1), Check.OUTSIDE, before);
            for (int k = 1; k <= 8; k++) {
                check.due("see", x.see(k == 1 ? 0 : 999), k);
            }
            String full = Check.picture(x);
            check.refused(x, "see(0) full", x.see(0), Check.FULL, full);
            check.refused(x, "see(1000) full", x.see(1000), Check.OUTSIDE, full);
        }
    }

    private static void madeBy() {
        check.due("madeBy(), no clan", new Cross().madeBy(), 0);
        check.due("madeBy(), nobody", Check.of("x1;").madeBy(), 0);
        Cross x = Check.of(Check.FIVE);
        check.due("madeBy(), nothing seen", x.madeBy(), 31);
        x.see(545);
        check.due("madeBy() 545", x.madeBy(), 13);
        x.see(434);
        check.due("madeBy() 434", x.madeBy(), 13);
        x.see(324);
        check.due("madeBy() 324", x.madeBy(), 4);
        x.teach(4, 434);
        check.due("madeBy() by marks as they are now", x.madeBy(), 20);
        x.see(999);
        check.due("madeBy() none", x.madeBy(), 0);
        Cross eight = Check.of("x0;" + "p5 3 0;".repeat(8));
        check.due("madeBy() of eight", eight.madeBy(), 255);
    }

    private static void look(String text, int want) {
        check.due("lookAt() of " + text, Check.of(text).lookAt(), want);
    }

    private static void lookAt() {
        check.due("lookAt(), no clan", new Cross().lookAt(), Check.NONE);
        look("x0;", Check.NONE);
        look("x0;p555 0 0;", Check.NONE);
        look("x0;p555 0 0;p555 1 1;", Check.NONE);
        look("x0;p555 0 0;p556 0 0;", 2);
        look("x0;p5 0 0;p6 0 0;", 2);
        look("x0;p999 0 0;p909 0 0;", 1);
        look("x0;p555 0 0;p565 0 0;", 1);
        look("x0;p555 0 0;p655 0 0;", 0);
        look("x0;p555 0 0;p655 0 0;p566 0 0;", 0);
        look("x0;p555 0 0;p665 0 0;p576 0 0;", 1);
        look("x0;p111 0 0;p112 0 0;p221 0 0;p222 0 0;p331 0 0;p332 0 0;", 0);
        look("x0;p111 0 0;p121 0 0;p211 0 0;p129 0 0;p110 0 0;", 1);
        Cross x = Check.of(Check.FIVE);
        check.due("lookAt() of all", x.lookAt(), 2);
        x.see(957);
        check.due("lookAt() of one", x.lookAt(), Check.NONE);
        x.tear();
        x.see(545);
        x.teach(2, 445);
        x.teach(3, 545);
        check.due("lookAt() of three", x.lookAt(), 0);
        x.see(999);
        check.due("lookAt() of none", x.lookAt(), Check.NONE);
    }

    private static void write() {
        Cross x = new Cross();
        check.due("write(0, 0), no clan", x.write(0, 0), Check.UNKNOWN);
        Check.tell(x, Check.FIVE);
        String before = Check.picture(x);
        check.refused(x, "write(5, 1000)", x.write(5, 1000), Check.UNKNOWN, before);
        check.refused(x, "write(-1, 0)", x.write(-1, 0), Check.UNKNOWN, before);
        check.refused(x, "write(0, 1000)", x.write(0, 1000), Check.OUTSIDE, before);
        check.refused(x, "write(0, -1)", x.write(0, -1), Check.OUTSIDE, before);
        x = Check.of(Check.FIVE);
        for (int k = 1; k <= 15; k++) {
            check.due("write(4, 909)", x.write(4, 909), k);
        }
        String full = Check.picture(x);
        check.refused(x, "write(0, 545) full", x.write(0, 545), Check.FULL, full);
        check.refused(x, "write(0, 1000) full", x.write(0, 1000), Check.OUTSIDE, full);
        check.refused(x, "write(5, 1000) full", x.write(5, 1000), Check.UNKNOWN, full);
    }

    private static void tear() {
        Cross x = Check.of(Check.FIVE);
        check.due("tear() of nothing", x.tear(), 0);
        for (int k = 0; k < 8; k++) {
            x.see(957);
        }
        for (int k = 0; k < 15; k++) {
            x.write(0, 0);
        }
        x.sign(0, 0);
        check.due("tear()", x.tear(), 23);
        check.due("told(7)", x.told(7), 0);
        check.due("told(8)", x.told(8), 0);
        check.due("told(3)", x.told(3), 5);
        check.due("told(9)", x.told(9), 1);
        check.due("madeBy()", x.madeBy(), 31);
        check.due("judge()", x.judge(), Check.NONE);
        check.due("see(1)", x.see(1), 1);
        check.due("write(1, 1)", x.write(1, 1), 1);
        check.due("tear()", x.tear(), 2);
    }

    private static void judge() {
        Cross x = Check.of(Check.FIVE);
        check.due("judge(), no book", x.judge(), Check.NONE);
        x.write(0, 545);
        x.write(1, 957);
        x.write(0, 545);
        check.due("judge() all right", x.judge(), Check.NONE);
        x.write(2, 345);
        x.write(3, 999);
        check.due("judge()", x.judge(), 3);
        x.teach(2, 345);
        check.due("judge()", x.judge(), 4);
        x.teach(1, 958);
        check.due("judge()", x.judge(), 1);
        x.undo();
        check.due("judge() behind undo", x.judge(), 4);
        x.teach(0, 546);
        check.due("judge() of the first", x.judge(), 0);
        x.undo();
        for (int k = 5; k < 14; k++) {
            x.write(4, 909);
        }
        x.teach(3, 999);
        check.due("judge()", x.judge(), Check.NONE);
        x.write(4, 908);
        check.due("judge() of the last", x.judge(), 14);
    }

    private static void seed() {
        Cross x = new Cross();
        check.due("seed(max)", x.seed(2147483647), 0);
        String before = Check.picture(x);
        check.refused(x, "seed(-1)", x.seed(-1), Check.OUTSIDE, before);
        check.refused(x, "seed(min)", x.seed(Integer.MIN_VALUE), Check.OUTSIDE, before);
        check.due("seed(0)", x.seed(0), 2147483647);
        check.due("seed(5)", x.seed(5), 0);
        Check.tell(x, "x0;p555 0 0;");
        x.seed(0);
        x.drift(1);
        long due = 0;
        for (int k = 0; k < 3; k++) {
            due = (due * 1103515245L + 12345L) % 2147483648L;
        }
        check.due("seed behind three draws", x.seed(0), due);
    }

    private static void images() {
        Cross x = new Cross();
        String empty = Check.picture(x);
        check.refused(x, "keep(2)", x.keep(2), Check.UNKNOWN, empty);
        check.refused(x, "keep(-1)", x.keep(-1), Check.UNKNOWN, empty);
        check.refused(x, "goBack(2)", x.goBack(2), Check.UNKNOWN, empty);
        check.refused(x, "goBack(-1)", x.goBack(-1), Check.UNKNOWN, empty);
        check.refused(x, "goBack(0)", x.goBack(0), Check.NOT, empty);
        check.due("keep(0), no clan", x.keep(0), 1);
        x.seed(8);
        check.due("goBack(0), no clan", x.goBack(0), 1);
        check.due("seed(1)", x.seed(1), 0);
        check.due("goBack(1)", x.goBack(1), Check.NOT);
        Check.tell(x, Check.FIVE);
        check.due("goBack(0) behind clan()", x.goBack(0), Check.NOT);
        x.teach(0, 1);
        String before = Check.picture(x);
        check.refused(x, "goBack(1) not kept", x.goBack(1), Check.NOT, before);
        check.refused(x, "keep(2)", x.keep(2), Check.UNKNOWN, before);
        check.due("keep(1)", x.keep(1), 1);
        check.due("told(9) behind keep", x.told(9), 0);
        check.due("undo() behind keep", x.undo(), Check.NOT);
        x.teach(0, 2);
        check.due("goBack(1)", x.goBack(1), 1);
        check.due("told(9) behind goBack", x.told(9), 0);
        check.due("undo() behind goBack", x.undo(), Check.NOT);
        check.due("person(0, 0)", x.person(0, 0), 1);
        check.due("goBack(0)", x.goBack(0), Check.NOT);
    }

    private static void imagesHoldAll() {
        Cross x = Check.of(Check.FIVE);
        x.seed(11);
        x.year(4);
        x.sign(2, 222);
        x.keep(0);
        String first = Check.picture(x);
        x.drift(40);
        x.year(7);
        x.tearPaper();
        x.tearPaper();
        x.sign(4, 444);
        x.keep(1);
        String second = Check.picture(x);
        x.drift(9);
        x.sign(0, 1);
        x.sign(0, 2);
        x.goBack(0);
        check.holds("image 0 is as it was", first.equals(Check.picture(x)));
        x.teach(0, 0);
        x.goBack(1);
        check.holds("image 1 is as it was", second.equals(Check.picture(x)));
        x.goBack(0);
        check.holds("image 0 can be taken again", first.equals(Check.picture(x)));
        x.see(5);
        x.write(1, 5);
        x.goBack(1);
        check.due("what is seen stays", x.told(7), 1);
        check.due("the book stays", x.told(8), 1);
        x.keep(0);
        x.tear();
        x.goBack(0);
        check.due("an image has nothing seen", x.told(7), 0);
        check.holds("image 0 was kept anew", second.equals(Check.picture(x)));
    }
}
