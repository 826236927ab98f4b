/** What the project's tests share: a clan told by a text, answers compared, the count of wrong ones. */
final class Check {
    static final int NONE = -1, UNKNOWN = -1000000001, OUTSIDE = -1000000002, NOT = -1000000003, FULL = -1000000004;

    /** 545 957 346 544 909 of grandfather 555, with four papers and three candidates. */
    static final String FIVE = "x555;p545 1 0;p957 0 2;p346 2 1;p544 1 0;p909 3 0;"
        + "s0 446;s1 957;s1 956;s3 555;c500;c555;c999;";

    private int answers;
    private int wrong;

    void due(String call, long got, long want) {
        answers++;
        if (got != want) {
            wrong++;
            System.out.println(call + " answered " + got + ", due is " + want);
        }
    }

    void holds(String what, boolean is) {
        due(what, is ? 1 : 0, 1);
    }

    /** A call that must be refused, and must leave all that can be asked as it was. */
    void refused(SignedCross x, String call, int got, int want, String before) {
        due(call, got, want);
        String after = picture(x);
        answers++;
        if (!before.equals(after)) {
            wrong++;
            System.out.println(call + " was refused but changed\n  " + before + "\nto\n  " + after);
        }
    }

    void end() {
        System.out.println(answers + " answers, " + wrong + " wrong");
        if (wrong != 0) {
            System.exit(1);
        }
    }

    static void feedAll(SignedCross x, String text) {
        for (int k = 0; k < text.length(); k++) {
            x.feed(text.charAt(k));
        }
    }

    static int tell(SignedCross x, String text) {
        feedAll(x, text);
        return x.clan();
    }

    static SignedCross of(String text) {
        SignedCross x = new SignedCross();
        tell(x, text);
        return x;
    }

    /** All that can be asked without changing anything; THE SEED is put back. */
    static String picture(SignedCross x) {
        StringBuilder all = new StringBuilder();
        for (int what = 0; what < 10; what++) {
            all.append(x.told(what)).append(' ');
        }
        all.append("fault ").append(x.fault()).append(" persons");
        for (int p = 0; p < x.told(2); p++) {
            for (int what = 0; what < 4; what++) {
                all.append(' ').append(x.person(p, what));
            }
        }
        all.append(" papers");
        for (int s = 0; s < x.told(3); s++) {
            all.append(' ').append(x.paper(s, 0)).append(' ').append(x.paper(s, 1));
        }
        all.append(" candidates");
        for (int c = 0; c < x.told(4); c++) {
            all.append(' ').append(x.candidate(c));
        }
        int seed = x.seed(0);
        x.seed(seed);
        all.append(" seed ").append(seed).append(" made ").append(x.madeBy()).append(" wrong ").append(x.judge());
        return all.toString();
    }
}
