import java.util.Random;

/** Runs of drawn calls (the draws are the same every time): the program answers what the model answers. */
public final class ModelTest {
    private static final Check check = new Check();
    private static final int RUNS = 700;
    /** 240 letters, clan() and fault(). */
    private static final int LONGEST_TELLING = 242;

    private static final String[] ASKED = {
        "fault", "told", "person", "paper", "candidate", "whose", "odds", "marks", "tree", "kin", "most", "clash",
        "forged", "makers", "heir", "sham", "love", "vote", "turned", "one", "madeBy", "lookAt", "judge"};
    private static final String[] DONE = {
        "year", "teach", "sign", "tearPaper", "drift", "undo", "see", "write", "tear", "seed", "keep", "goBack",
        "year", "teach", "sign", "drift", "see", "write", "teach", "undo"};

    public static void main(String[] args) {
        for (int run = 0; run < RUNS; run++) {
            drawnRun(run);
        }
        for (int run = 0; run < 4000; run++) {
            brokenText(run);
        }
        check.end();
    }

    private static void drawnRun(int run) {
        Random random = new Random(run);
        Cross x = new Cross();
        Model model = new Model();
        if (random.nextInt(20) > 0) {
            tell(run, x, model, goodText(random));
        }
        while (x.callsLeft() > 0) {
            int kind = random.nextInt(100);
            boolean room = x.callsLeft() > LONGEST_TELLING;
            if (kind == 0 && room) {
                tell(run, x, model, random.nextInt(3) == 0 ? " ".repeat(random.nextInt(3)) : goodText(random));
            } else if (kind == 1 && room) {
                tell(run, x, model, broken(random));
            } else {
                String[] names = kind < 40 ? DONE : ASKED;
                compare(run, x, model, names[random.nextInt(names.length)], random);
            }
        }
    }

    private static void brokenText(int run) {
        Random random = new Random(1000000 + run);
        Cross x = new Cross();
        Model model = new Model();
        while (x.callsLeft() > LONGEST_TELLING + 10) {
            tell(run, x, model, broken(random));
            for (int what = 0; what < 10; what++) {
                same(run, x, model, "told", what, 0);
            }
        }
    }

    private static void tell(int run, Cross x, Model model, String text) {
        for (int k = 0; k < text.length(); k++) {
            same(run, x, model, "feed", text.charAt(k), 0);
        }
        check.due("run " + run + " clan() of '" + text + "'", x.clan(), model.ask("clan", 0, 0));
        check.due("run " + run + " fault() of '" + text + "'", x.fault(), model.ask("fault", 0, 0));
    }

    private static void compare(int run, Cross x, Model model, String name, Random random) {
        int a = small(random);
        int b = small(random);
        switch (name) {
            case "whose": case "vote": case "see": a = mark(random); break;
            case "teach": case "sign": case "write": case "odds": b = mark(random); break;
            case "turned": a = mark(random); break;
            case "year": case "drift": case "heir": a = random.nextInt(3) == 0 ? random.nextInt(64) - 1 : random.nextInt(4); break;
            case "keep": case "goBack": a = random.nextInt(random.nextInt(4) == 0 ? 4 : 2); break;
            case "seed": a = random.nextInt(4) == 0 ? -1 : random.nextInt() & (random.nextInt(10) == 0 ? -1 : 0x7fffffff); break;
            default: break;
        }
        same(run, x, model, name, a, b);
    }

    private static void same(int run, Cross x, Model model, String name, int a, int b) {
        check.due("run " + run + ": " + name + "(" + a + ", " + b + ")", x.ask(name, a, b), model.ask(name, a, b));
    }

    private static int small(Random random) {
        return random.nextInt(30) == 0 ? random.nextInt() : random.nextInt(11) - 2;
    }

    private static int mark(Random random) {
        switch (random.nextInt(6)) {
            case 0: return random.nextInt(1010) - 5;
            case 1: return 555;
            default: return near(random);
        }
    }

    /** MARKS that lie together, so that they PASS and are like often. */
    private static int near(Random random) {
        return 100 * (3 + random.nextInt(5)) + 10 * (3 + random.nextInt(5)) + 3 + random.nextInt(5);
    }

    private static int any(Random random) {
        return random.nextInt(3) == 0 ? random.nextInt(1000) : near(random);
    }

    private static String blank(Random random) {
        return random.nextInt(12) == 0 ? " " : "";
    }

    private static String goodText(Random random) {
        StringBuilder text = new StringBuilder(blank(random)).append('x').append(any(random)).append(';');
        int persons = random.nextInt(9);
        for (int p = 0; p < persons; p++) {
            text.append(blank(random)).append('p').append(blank(random)).append(any(random)).append(' ')
                .append(random.nextInt(4)).append(' ').append(random.nextInt(3)).append(blank(random)).append(';');
        }
        int papers = persons == 0 ? 0 : random.nextInt(9);
        for (int s = 0; s < papers; s++) {
            text.append('s').append(random.nextInt(persons)).append(' ').append(blank(random)).append(any(random)).append(';');
        }
        int squares = random.nextInt(5);
        for (int c = 0; c < squares; c++) {
            text.append('c').append(any(random)).append(';').append(blank(random));
        }
        return text.toString();
    }

    private static String broken(Random random) {
        StringBuilder text = new StringBuilder(goodText(random));
        String letters = "xpsc;; 0123459 \u0000\u00ff";
        for (int k = 1 + random.nextInt(3); k > 0 && text.length() > 0; k--) {
            int at = random.nextInt(text.length());
            char letter = letters.charAt(random.nextInt(letters.length()));
            switch (random.nextInt(4)) {
                case 0: text.deleteCharAt(at); break;
                case 1: text.setCharAt(at, letter); break;
                case 2: text.insert(at, letter); break;
                default: text.setLength(random.nextInt(4) == 0 ? at : text.length()); break;
            }
        }
        return text.toString();
    }
}
