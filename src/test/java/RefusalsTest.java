/**
 * "REFUSALS, of several the first in this order" and "What is refused changes nothing": every refused call of every
 * promise, in states from empty to full. A twin that was not asked has the same depths: all that can be asked, each
 * state that can be undone, both IMAGES and THE TEXT. So has one of whom all that is only asked or tried was asked.
 */
public final class RefusalsTest {
    private static final Check check = new Check();

    private static final int UNKNOWN = Check.UNKNOWN, OUTSIDE = Check.OUTSIDE, NOT = Check.NOT, FULL = Check.FULL;

    /** What has eight at most has no ninth in any state, and no object has one below 0. */
    private static final Object[] ANYWHERE = {
        "feed(-1)", OUTSIDE, "feed(256)", OUTSIDE, "feed(-2147483648)", OUTSIDE, "feed(2147483647)", OUTSIDE,
        "told(-1)", OUTSIDE, "told(10)", OUTSIDE, "told(-2147483648)", OUTSIDE, "told(2147483647)", OUTSIDE,
        "person(-1, 0)", UNKNOWN, "person(8, 0)", UNKNOWN, "person(-1, -1)", UNKNOWN, "person(8, 4)", UNKNOWN,
        "person(2147483647, 4)", UNKNOWN, "person(-2147483648, -1)", UNKNOWN,
        "paper(-1, 0)", UNKNOWN, "paper(8, 0)", UNKNOWN, "paper(-1, -1)", UNKNOWN, "paper(8, 2)", UNKNOWN,
        "paper(2147483647, 2)", UNKNOWN, "paper(-2147483648, -1)", UNKNOWN,
        "candidate(-1)", UNKNOWN, "candidate(4)", UNKNOWN, "candidate(2147483647)", UNKNOWN,
        "candidate(-2147483648)", UNKNOWN,
        "year(0)", OUTSIDE, "year(61)", OUTSIDE, "year(-1)", OUTSIDE, "year(-2147483648)", OUTSIDE,
        "year(2147483647)", OUTSIDE,
        "teach(-1, 0)", UNKNOWN, "teach(8, 999)", UNKNOWN, "teach(-1, -1)", UNKNOWN, "teach(8, 1000)", UNKNOWN,
        "sign(-1, 0)", UNKNOWN, "sign(8, 999)", UNKNOWN, "sign(-1, -1)", UNKNOWN, "sign(8, 1000)", UNKNOWN,
        "drift(0)", OUTSIDE, "drift(61)", OUTSIDE, "drift(-1)", OUTSIDE, "drift(-2147483648)", OUTSIDE,
        "drift(2147483647)", OUTSIDE,
        "whose(-1)", OUTSIDE, "whose(1000)", OUTSIDE, "whose(-2147483648)", OUTSIDE, "whose(2147483647)", OUTSIDE,
        "odds(-1, 0)", UNKNOWN, "odds(8, 0)", UNKNOWN, "odds(-1, -1)", UNKNOWN, "odds(8, 1000)", UNKNOWN,
        "marks(-1)", UNKNOWN, "marks(8)", UNKNOWN, "kin(-1)", UNKNOWN, "kin(8)", UNKNOWN,
        "makers(-1)", UNKNOWN, "makers(8)", UNKNOWN,
        "heir(-1)", OUTSIDE, "heir(61)", OUTSIDE, "heir(-2147483648)", OUTSIDE, "heir(2147483647)", OUTSIDE,
        "sham(-1)", UNKNOWN, "sham(8)", UNKNOWN,
        "vote(-1)", OUTSIDE, "vote(1000)", OUTSIDE, "vote(-2147483648)", OUTSIDE, "vote(2147483647)", OUTSIDE,
        "turned(0, -1)", UNKNOWN, "turned(0, 4)", UNKNOWN, "turned(-1, -1)", UNKNOWN, "turned(1000, 4)", UNKNOWN,
        "one(0, 0)", UNKNOWN, "one(7, 7)", UNKNOWN, "one(0, 8)", UNKNOWN, "one(8, 0)", UNKNOWN, "one(-1, 0)", UNKNOWN,
        "one(0, -1)", UNKNOWN, "one(8, 9)", UNKNOWN, "one(-1, -1)", UNKNOWN,
        "see(-1)", OUTSIDE, "see(1000)", OUTSIDE, "see(-2147483648)", OUTSIDE, "see(2147483647)", OUTSIDE,
        "write(-1, 0)", UNKNOWN, "write(8, 0)", UNKNOWN, "write(-1, -1)", UNKNOWN, "write(8, 1000)", UNKNOWN,
        "seed(-1)", OUTSIDE, "seed(-2147483648)", OUTSIDE,
        "keep(-1)", UNKNOWN, "keep(2)", UNKNOWN, "keep(-2147483648)", UNKNOWN, "keep(2147483647)", UNKNOWN,
        "goBack(-1)", UNKNOWN, "goBack(2)", UNKNOWN, "goBack(-2147483648)", UNKNOWN, "goBack(2147483647)", UNKNOWN};

    /** With at least two PERSONS, one PAPER, one CANDIDATE: numbers that are OUTSIDE only because those are there. */
    private static final Object[] WITH_PERSONS = {
        "person(0, -1)", OUTSIDE, "person(1, 4)", OUTSIDE, "person(0, 2147483647)", OUTSIDE,
        "person(0, -2147483648)", OUTSIDE,
        "paper(0, -1)", OUTSIDE, "paper(0, 2)", OUTSIDE, "paper(0, 2147483647)", OUTSIDE,
        "paper(0, -2147483648)", OUTSIDE,
        "teach(0, -1)", OUTSIDE, "teach(1, 1000)", OUTSIDE, "teach(0, -2147483648)", OUTSIDE,
        "teach(1, 2147483647)", OUTSIDE,
        "sign(0, -1)", OUTSIDE, "sign(1, 1000)", OUTSIDE, "sign(0, -2147483648)", OUTSIDE,
        "sign(1, 2147483647)", OUTSIDE,
        "odds(0, -1)", OUTSIDE, "odds(1, 1000)", OUTSIDE, "odds(0, -2147483648)", OUTSIDE,
        "odds(1, 2147483647)", OUTSIDE,
        "turned(-1, 0)", OUTSIDE, "turned(1000, 0)", OUTSIDE, "turned(-2147483648, 0)", OUTSIDE,
        "turned(2147483647, 0)", OUTSIDE,
        "write(0, -1)", OUTSIDE, "write(1, 1000)", OUTSIDE, "write(0, -2147483648)", OUTSIDE,
        "write(1, 2147483647)", OUTSIDE};

    /** Asked, tried, or an accepted call that ends where it began: all of these leave everything as it is. */
    private static final String[] ONLY_ASKED = {
        "fault()", "told(0)", "told(9)", "person(0, 3)", "paper(0, 1)", "candidate(0)", "whose(545)", "whose(0)",
        "odds(0, 545)", "odds(1, 999)", "marks(0)", "tree(-1)", "tree(0)", "tree(7)", "kin(0)", "most()", "clash()",
        "forged()", "makers(0)", "heir(0)", "heir(60)", "sham(0)", "sham(1)", "love(-1)", "love(0)", "love(8)",
        "vote(0)", "vote(999)", "turned(0, 0)", "turned(999, 1)", "one(0, 1)", "one(1, 0)", "madeBy()", "lookAt()",
        "judge()"};

    private static final String SOME = "x555;p545 1 0;p957 0 2;p346 2 1;s0 446;s1 957;c500;c555;";
    private static final String MUCH = "x555;p545 3 0;p957 0 2;s0 446;s1 957;s1 956;s0 555;s0 1;s1 2;s0 3;s1 957;"
        + "c0;c500;c555;c999;";

    private interface State {
        Cross make();
    }

    public static void main(String[] args) {
        newObject();
        noClan();
        nobody();
        someOfAll();
        muchOfAll();
        eightPersons();
        fullText();
        lateYears();
        check.end();
    }

    private static void each(String name, State state, Object... callsAndDue) {
        String twin = Check.depths(state.make());
        for (int k = 0; k + 1 < callsAndDue.length; k += 2) {
            String call = (String) callsAndDue[k];
            Cross x = state.make();
            check.due(name + " " + call, x.ask(call), (Integer) callsAndDue[k + 1]);
            check.same(name + " " + call + " was refused, but changed what is so", Check.depths(x), twin);
        }
    }

    private static void onlyAsked(String name, State state) {
        String twin = Check.depths(state.make());
        for (String call : ONLY_ASKED) {
            Cross x = state.make();
            x.ask(call);
            x.ask(call);
            check.same(name + " " + call + " changed what is so", Check.depths(x), twin);
        }
    }

    private static Cross after(String text, String... calls) {
        Cross x = Check.of(text);
        for (String call : calls) {
            x.ask(call);
        }
        return x;
    }

    private static void newObject() {
        State state = Cross::new;
        each("new", state, ANYWHERE);
        each("new", state, "person(0, 0)", UNKNOWN, "person(0, 4)", UNKNOWN, "paper(0, 0)", UNKNOWN,
            "paper(0, 2)", UNKNOWN, "candidate(0)", UNKNOWN, "year(1)", NOT, "year(60)", NOT, "drift(1)", NOT,
            "drift(60)", NOT, "teach(0, 0)", UNKNOWN, "teach(0, 1000)", UNKNOWN, "sign(0, 0)", UNKNOWN,
            "sign(0, 1000)", UNKNOWN, "tearPaper()", NOT, "undo()", NOT, "odds(0, 0)", UNKNOWN,
            "odds(0, 1000)", UNKNOWN, "marks(0)", UNKNOWN, "kin(0)", UNKNOWN, "makers(0)", UNKNOWN,
            "sham(0)", UNKNOWN, "turned(0, 0)", UNKNOWN, "turned(1000, 0)", UNKNOWN, "one(0, 1)", UNKNOWN,
            "write(0, 0)", UNKNOWN, "write(0, 1000)", UNKNOWN, "goBack(0)", NOT, "goBack(1)", NOT);
        onlyAsked("new", state);
    }

    /** No CLAN, but letters, a FAULT, a SEED and something SEEN. */
    private static void noClan() {
        State state = () -> after("x0;y", "seed(5)", "see(545)", "see(999)", "feed(120)", "feed(55)", "feed(59)");
        each("no clan", state, ANYWHERE);
        each("no clan", state, "year(1)", NOT, "drift(60)", NOT, "tearPaper()", NOT, "undo()", NOT, "goBack(0)", NOT,
            "goBack(1)", NOT, "write(0, 0)", UNKNOWN, "teach(0, 0)", UNKNOWN, "sign(0, 0)", UNKNOWN);
        onlyAsked("no clan", state);
    }

    private static void nobody() {
        State state = () -> after("x555;", "seed(9)", "see(0)", "year(3)", "feed(32)");
        each("nobody", state, ANYWHERE);
        each("nobody", state, "person(0, 0)", UNKNOWN, "paper(0, 0)", UNKNOWN, "candidate(0)", UNKNOWN,
            "teach(0, 0)", UNKNOWN, "sign(0, 0)", UNKNOWN, "tearPaper()", NOT, "marks(0)", UNKNOWN, "kin(0)", UNKNOWN,
            "sham(0)", UNKNOWN, "one(0, 1)", UNKNOWN, "write(0, 0)", UNKNOWN, "goBack(0)", NOT);
        onlyAsked("nobody", state);
    }

    /** Three PERSONS, two PAPERS, two CANDIDATES, four that can be undone, IMAGE 0 alone. */
    private static void someOfAll() {
        State state = () -> after(SOME, "seed(77)", "teach(0, 544)", "year(1)", "keep(0)", "year(3)", "sign(2, 345)",
            "drift(4)", "tearPaper()", "see(545)", "see(546)", "write(0, 545)", "write(1, 957)", "feed(120)",
            "feed(55)", "feed(59)");
        each("some", state, ANYWHERE);
        each("some", state, WITH_PERSONS);
        each("some", state, "person(3, 0)", UNKNOWN, "person(3, 4)", UNKNOWN, "paper(2, 0)", UNKNOWN,
            "paper(2, 2)", UNKNOWN, "candidate(2)", UNKNOWN, "teach(3, 0)", UNKNOWN, "teach(3, 1000)", UNKNOWN,
            "sign(3, 0)", UNKNOWN, "sign(3, -1)", UNKNOWN, "odds(3, 0)", UNKNOWN, "odds(3, 1000)", UNKNOWN,
            "marks(3)", UNKNOWN, "kin(3)", UNKNOWN, "makers(2)", UNKNOWN, "sham(3)", UNKNOWN, "turned(0, 2)", UNKNOWN,
            "turned(1000, 2)", UNKNOWN, "one(0, 3)", UNKNOWN, "one(3, 0)", UNKNOWN, "one(2, 2)", UNKNOWN,
            "write(3, 0)", UNKNOWN, "write(3, 1000)", UNKNOWN, "goBack(1)", NOT);
        onlyAsked("some", state);
    }

    /** Eight PAPERS, four CANDIDATES, eight SEEN, fifteen entries, twenty that can be undone, both IMAGES. */
    private static Cross much() {
        Cross x = after(MUCH, "seed(2147483647)", "keep(0)", "drift(60)", "keep(1)");
        x.year(1);
        x.teach(1, 957);
        for (int k = 2; k < 20; k++) {
            x.teach(0, 525 + k);
        }
        for (int k = 0; k < 8; k++) {
            x.see(544);
        }
        for (int k = 0; k < 15; k++) {
            x.write(0, 544);
        }
        return x;
    }

    private static void muchOfAll() {
        State state = RefusalsTest::much;
        check.due("much: undone", much().told(9), 20);
        check.due("much: seen", much().told(7), 8);
        check.due("much: made by", much().madeBy(), 1);
        check.due("much: entries", much().told(8), 15);
        check.due("much: judged", much().judge(), Check.NONE);
        each("much", state, ANYWHERE);
        each("much", state, WITH_PERSONS);
        each("much", state, "sign(0, 0)", FULL, "sign(1, 999)", FULL, "sign(2, 0)", UNKNOWN, "sign(2, 1000)", UNKNOWN,
            "see(0)", FULL, "see(999)", FULL, "write(0, 0)", FULL, "write(1, 999)", FULL, "write(2, 0)", UNKNOWN,
            "write(2, 1000)", UNKNOWN, "person(2, 0)", UNKNOWN, "teach(2, 0)", UNKNOWN);
        onlyAsked("much", state);
    }

    private static void eightPersons() {
        State state = () -> after("x0;" + "p555 1 1;".repeat(7) + "p999 3 2;s7 9;c9;", "keep(1)", "teach(7, 990)");
        each("eight", state, ANYWHERE);
        each("eight", state, WITH_PERSONS);
        each("eight", state, "person(7, 4)", OUTSIDE, "teach(7, 1000)", OUTSIDE, "sign(7, -1)", OUTSIDE,
            "odds(7, 1000)", OUTSIDE, "write(7, -1)", OUTSIDE, "paper(1, 0)", UNKNOWN, "candidate(1)", UNKNOWN,
            "makers(1)", UNKNOWN, "turned(0, 1)", UNKNOWN, "goBack(0)", NOT);
        onlyAsked("eight", state);
    }

    private static void fullText() {
        State state = () -> {
            Cross x = after("x555;p545 1 0;p957 0 2;s0 9;c9;", "teach(0, 5)");
            Check.feedAll(x, "x7;" + " ".repeat(237));
            return x;
        };
        check.due("full text: letters", state.make().told(5), 240);
        each("full text", state, ANYWHERE);
        each("full text", state, WITH_PERSONS);
        each("full text", state, "feed(0)", FULL, "feed(32)", FULL, "feed(121)", FULL, "feed(255)", FULL);
        onlyAsked("full text", state);
    }

    private static void lateYears() {
        State state = () -> {
            Cross x = Check.of("x555;p909 3 2;p0 0 0;s0 9;c9;");
            for (int k = 0; k < 150; k++) {
                x.year(60);
            }
            x.year(1);
            return x;
        };
        each("late", state, ANYWHERE);
        each("late", state, WITH_PERSONS);
        each("late", state, "year(1)", FULL, "year(2)", FULL, "year(60)", FULL);
        onlyAsked("late", state);
    }
}
