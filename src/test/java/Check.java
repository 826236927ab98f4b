/** What the project's tests share: a clan told by a text, answers compared, the count of wrong ones. */
final class Check {
    static final int NONE = -1, UNKNOWN = -1000000001, OUTSIDE = -1000000002, NOT = -1000000003, FULL = -1000000004;
    static final int MIN = Integer.MIN_VALUE, MAX = Integer.MAX_VALUE;

    /** 545 957 346 544 909 of grandfather 555, with four papers and three candidates. */
    static final String FIVE = "x555;p545 1 0;p957 0 2;p346 2 1;p544 1 0;p909 3 0;"
        + "s0 446;s1 957;s1 956;s3 555;c500;c555;c999;";

    private int answers;
    private int wrong;

    void due(String call, long got, long want) {
        answers++;
        if (got != want) {
            wrong++;
            System.out.println(call + " answered " + got + ", due is " + want);
        }
    }

    void holds(String what, boolean is) {
        due(what, is ? 1 : 0, 1);
    }

    void same(String what, String got, String want) {
        answers++;
        if (!got.equals(want)) {
            wrong++;
            System.out.println(what + ":\n  " + got + "\nis not\n  " + want);
        }
    }

    /** A text told to a new object, then calls as they are written, each with the answer that is due. */
    Cross rows(String text, Object... callsAndDue) {
        Cross x = of(text);
        moreRows("'" + text + "'", x, callsAndDue);
        return x;
    }

    void moreRows(String where, Cross x, Object... callsAndDue) {
        for (int k = 0; k + 1 < callsAndDue.length; k += 2) {
            String call = (String) callsAndDue[k];
            due(where + " " + call, x.ask(call), (Integer) callsAndDue[k + 1]);
        }
    }

    /** A call that must be refused, and must leave all that can be asked as it was. */
    void refused(Cross x, String call, int got, int want, String before) {
        due(call, got, want);
        same(call + " was refused, but changed what is so", picture(x), before);
    }

    void end() {
        System.out.println(answers + " answers, " + wrong + " wrong");
        if (wrong != 0) {
            System.exit(1);
        }
    }

    static void feedAll(Cross x, String text) {
        for (int k = 0; k < text.length(); k++) {
            x.feed(text.charAt(k));
        }
    }

    static int tell(Cross x, String text) {
        feedAll(x, text);
        return x.clan();
    }

    static Cross of(String text) {
        Cross x = new Cross();
        tell(x, text);
        return x;
    }

    /** All that can be asked without changing anything; THE SEED is put back. */
    static String picture(Cross x) {
        StringBuilder all = new StringBuilder("fault ").append(x.fault()).append(" told");
        for (int what = 0; what < 10; what++) {
            all.append(' ').append(x.told(what));
        }
        all.append(" persons");
        int persons = x.told(2);
        for (int p = 0; p < persons; p++) {
            for (int what = 0; what < 4; what++) {
                all.append(' ').append(x.person(p, what));
            }
        }
        papers(x, all);
        all.append(" candidates");
        int candidates = x.told(4);
        for (int c = 0; c < candidates; c++) {
            all.append(' ').append(x.candidate(c));
        }
        seed(x, all);
        all.append(" made ").append(x.madeBy()).append(" wrong ").append(x.judge());
        return all.toString();
    }

    /** The picture and what lies behind it: every state that can be undone, both IMAGES, THE TEXT. Uses them up. */
    static String depths(Cross x) {
        StringBuilder all = new StringBuilder(picture(x));
        for (int more = x.told(9); more > 0; more--) {
            all.append("\n  undo ").append(x.undo());
            state(x, all);
        }
        for (int i = 0; i < 2; i++) {
            all.append("\n  image ").append(x.goBack(i));
            state(x, all);
            papers(x, all);
            seed(x, all);
        }
        all.append("\n  text ").append(x.told(5)).append(' ').append(x.clan()).append(' ').append(x.fault());
        all.append(' ').append(x.told(0)).append(' ').append(x.told(1));
        return all.toString();
    }

    /** The depths but for the FAULT, which a clan() with a FAULT tells anew. */
    static String depthsButFault(Cross x) {
        return depths(x).replaceFirst("fault -?\\d+", "");
    }

    private static void state(Cross x, StringBuilder all) {
        int persons = x.told(2);
        int papers = x.told(3);
        all.append(" years ").append(x.told(6)).append(" marks");
        for (int p = 0; p < persons; p++) {
            all.append(' ').append(x.person(p, 0));
        }
        all.append(" papers ").append(papers);
        if (papers > 0) {
            all.append(" latest ").append(x.paper(papers - 1, 0)).append(' ').append(x.paper(papers - 1, 1));
        }
    }

    private static void papers(Cross x, StringBuilder all) {
        all.append(" papers");
        int papers = x.told(3);
        for (int s = 0; s < papers; s++) {
            all.append(' ').append(x.paper(s, 0)).append(' ').append(x.paper(s, 1));
        }
    }

    private static void seed(Cross x, StringBuilder all) {
        int seed = x.seed(0);
        x.seed(seed);
        all.append(" seed ").append(seed);
    }
}
