import java.util.ArrayDeque;
import java.util.ArrayList;
import java.util.Arrays;
import java.util.Deque;
import java.util.HashMap;
import java.util.List;
import java.util.Map;

/** The document once more, by its definitions alone: every search goes over all MARKS, SETS or pairs. Slow and plain. */
final class Model {
    private record Sheet(int name, int mark) { }

    /** What is done changes a copy, so that older ones stay good for undo and images. */
    private static final class Scene {
        List<int[]> marks = new ArrayList<>();
        List<Sheet> sheets = new ArrayList<>();
        int years;

        Scene copy() {
            Scene other = new Scene();
            for (int[] mark : marks) {
                other.marks.add(mark.clone());
            }
            other.sheets.addAll(sheets);
            other.years = years;
            return other;
        }
    }

    private record Kept(Scene scene, long seed) { }

    private final StringBuilder text = new StringBuilder();
    private int[] old;
    private List<int[]> people = new ArrayList<>();
    private List<int[]> squares = new ArrayList<>();
    private Scene scene = new Scene();
    private final Deque<Scene> before = new ArrayDeque<>();
    private final Map<Integer, Kept> kept = new HashMap<>();
    private final List<Integer> seen = new ArrayList<>();
    private final List<Sheet> book = new ArrayList<>();
    private long seed;
    private int faultAt = -1;

    int ask(String call, int a, int b) {
        switch (call) {
            case "feed": return feed(a);
            case "clan": return clan();
            case "fault": return faultAt;
            case "told": return told(a);
            case "person": return !known(a) ? Check.UNKNOWN : b < 0 || b > 3 ? Check.OUTSIDE
                : b == 0 ? number(mark(a)) : b == 3 ? apart(mark(a), old) : people.get(a)[b];
            case "paper": return !paperThere(a) ? Check.UNKNOWN : b < 0 || b > 1 ? Check.OUTSIDE
                : b == 0 ? scene.sheets.get(a).mark : scene.sheets.get(a).name;
            case "candidate": return !squareThere(a) ? Check.UNKNOWN : number(squares.get(a));
            case "year": case "teach": case "sign": case "tearPaper": case "drift": return done(call, a, b);
            case "undo": return undo();
            case "see": case "write": case "tear": case "judge": case "madeBy": case "lookAt": return noted(call, a, b);
            case "seed": case "keep": case "goBack": return imaged(call, a);
            default: return tried(call, a, b);
        }
    }

    private boolean known(int p) { return p >= 0 && p < people.size(); }
    private boolean paperThere(int s) { return s >= 0 && s < scene.sheets.size(); }
    private boolean squareThere(int c) { return c >= 0 && c < squares.size(); }
    private int[] mark(int p) { return scene.marks.get(p); }
    private static boolean bad(int mark) { return mark < 0 || mark > 999; }
    private static int[] parts(int mark) { return new int[] {mark / 100, mark / 10 % 10, mark % 10}; }
    private static int number(int[] m) { return m[0] * 100 + m[1] * 10 + m[2]; }

    private static int apart(int[] a, int[] b) {
        int sum = 0;
        for (int k = 0; k < 3; k++) {
            sum += a[k] > b[k] ? a[k] - b[k] : b[k] - a[k];
        }
        return sum;
    }

    private int feed(int letter) {
        if (letter < 0 || letter > 255) {
            return Check.OUTSIDE;
        }
        if (text.length() == 240) {
            return Check.FULL;
        }
        text.append((char) letter);
        return text.length();
    }

    /** Words that are due next are kept as a pattern: w a word, digits which bound a NUMBER has, ; itself. */
    private int clan() {
        String all = text.toString();
        text.setLength(0);
        int[] grandfather = null;
        List<int[]> newPeople = new ArrayList<>();
        List<int[]> newSquares = new ArrayList<>();
        Scene fresh = new Scene();
        String due = "w";
        char word = ' ';
        List<Integer> numbers = new ArrayList<>();
        int at = 0;
        while (at < all.length()) {
            char here = all.charAt(at);
            if (here == ' ') {
                at++;
                continue;
            }
            char next = due.charAt(0);
            if (next == 'w') {
                boolean isWord = "xpsc".indexOf(here) >= 0;
                if (!isWord || (grandfather == null) != (here == 'x') && here != 'x') {
                    return failed(1, at);
                }
                if (here == 'x' && grandfather != null || here == 'p' && newPeople.size() == 8
                    || here == 's' && fresh.sheets.size() == 8 || here == 'c' && newSquares.size() == 4) {
                    return failed(3, at);
                }
                word = here;
                numbers.clear();
                due = here == 'p' ? "msd;w" : here == 's' ? "nm;w" : "m;w";
                at++;
            } else if (next == ';') {
                if (here != ';') {
                    return failed(1, at);
                }
                if (word == 'x') {
                    grandfather = parts(numbers.get(0));
                } else if (word == 'p') {
                    newPeople.add(new int[] {0, numbers.get(1), numbers.get(2)});
                    fresh.marks.add(parts(numbers.get(0)));
                } else if (word == 's') {
                    fresh.sheets.add(new Sheet(numbers.get(0), numbers.get(1)));
                } else {
                    newSquares.add(parts(numbers.get(0)));
                }
                due = due.substring(1);
                at++;
            } else {
                int end = at;
                while (end < all.length() && "0123456789".indexOf(all.charAt(end)) >= 0) {
                    end++;
                }
                if (end == at) {
                    return failed(1, at);
                }
                int limit = next == 'm' ? 999 : next == 's' ? 3 : next == 'd' ? 2 : newPeople.size() - 1;
                if (end - at > 3 || Integer.parseInt(all.substring(at, end)) > limit) {
                    return failed(2, at);
                }
                numbers.add(Integer.parseInt(all.substring(at, end)));
                due = due.substring(1);
                at = end;
            }
        }
        if (!due.equals("w")) {
            return failed(1, all.length());
        }
        faultAt = -1;
        old = grandfather;
        people = newPeople;
        squares = newSquares;
        scene = fresh;
        before.clear();
        kept.clear();
        seen.clear();
        book.clear();
        return people.size();
    }

    private int failed(int kind, int at) {
        faultAt = at;
        return -10 - kind;
    }

    private int told(int what) {
        int[] all = {old == null ? 0 : 1, old == null ? 0 : number(old), people.size(), scene.sheets.size(),
            squares.size(), text.length(), scene.years, seen.size(), book.size(), before.size()};
        return what < 0 || what >= all.length ? Check.OUTSIDE : all[what];
    }

    private void oneYear(Scene s) {
        for (int p = 0; p < people.size(); p++) {
            int[] m = s.marks.get(p);
            for (int step = 0; step < people.get(p)[2]; step++) {
                m[0] += Integer.compare(old[0], m[0]);
            }
            if (s.years % 2 != 0 && m[2] > 0) {
                m[2]--;
            }
        }
        s.years++;
    }

    private int drawn(int n) {
        seed = (seed * 1103515245L + 12345L) % (1L << 31);
        return (int) (seed / 65536 % n);
    }

    private int done(String call, int a, int b) {
        boolean byPerson = call.equals("teach") || call.equals("sign");
        boolean byCount = call.equals("year") || call.equals("drift");
        if (byPerson && !known(a)) {
            return Check.UNKNOWN;
        }
        if (byPerson && bad(b) || byCount && (a < 1 || a > 60)) {
            return Check.OUTSIDE;
        }
        if (byCount && old == null || call.equals("tearPaper") && scene.sheets.isEmpty()) {
            return Check.NOT;
        }
        if (call.equals("sign") && scene.sheets.size() == 8 || call.equals("year") && scene.years > 9000) {
            return Check.FULL;
        }
        before.addLast(scene);
        if (before.size() > 20) {
            before.removeFirst();
        }
        Scene was = scene;
        scene = scene.copy();
        switch (call) {
            case "year":
                for (int k = 0; k < a; k++) {
                    oneYear(scene);
                }
                return scene.years;
            case "teach":
                scene.marks.set(a, parts(b));
                return apart(was.marks.get(a), scene.marks.get(a));
            case "sign":
                scene.sheets.add(new Sheet(a, b));
                return scene.sheets.size();
            case "tearPaper":
                return scene.sheets.remove(scene.sheets.size() - 1).mark;
            default:
                return shaken(was, a);
        }
    }

    private int shaken(Scene was, int n) {
        int others = 0;
        for (int k = 0; k < n && !people.isEmpty(); k++) {
            int[] m = mark(drawn(people.size()));
            int part = drawn(3);
            m[part] = Math.min(9, Math.max(0, m[part] + 2 * drawn(2) - 1));
        }
        for (int p = 0; p < people.size(); p++) {
            others += Arrays.equals(mark(p), was.marks.get(p)) ? 0 : 1;
        }
        return others;
    }

    private int undo() {
        if (before.isEmpty()) {
            return Check.NOT;
        }
        scene = before.removeLast();
        return before.size();
    }

    private boolean passes(Scene s, int mark, int p) {
        int[] m = parts(mark);
        boolean all = true;
        for (int k = 0; k < 3; k++) {
            all &= Math.abs(m[k] - s.marks.get(p)[k]) <= people.get(p)[1];
        }
        return all;
    }

    private int passing(int p) {
        int count = 0;
        for (int m = 0; m < 1000; m++) {
            count += passes(scene, m, p) ? 1 : 0;
        }
        return count;
    }

    private int whose(int mark) {
        int set = 0;
        for (int p = 0; p < people.size(); p++) {
            set += passes(scene, mark, p) ? 1 << p : 0;
        }
        return set;
    }

    private boolean toldApart(Scene s, int p, int q) {
        for (int m = 0; m < 1000; m++) {
            if (passes(s, m, p) && passes(s, m, q)) {
                return false;
            }
        }
        return true;
    }

    private int odds(int p, int mark) {
        if (!passes(scene, mark, p)) {
            return 0;
        }
        long sum = 0;
        for (int q = 0; q < people.size(); q++) {
            sum += passes(scene, mark, q) ? 1000000 / passing(q) : 0;
        }
        return (int) ((1000000 / passing(p)) * 1000000L / sum);
    }

    /** All pairs, sorted once, then taken if they join two that do not hang together. */
    private int tree(int i) {
        List<int[]> pairs = new ArrayList<>();
        List<List<Integer>> hanging = new ArrayList<>();
        for (int p = 0; p < people.size(); p++) {
            hanging.add(new ArrayList<>(List.of(p)));
            for (int q = p + 1; q < people.size(); q++) {
                pairs.add(new int[] {apart(mark(p), mark(q)), 10 * p + q});
            }
        }
        pairs.sort((a, b) -> a[0] != b[0] ? a[0] - b[0] : a[1] - b[1]);
        List<Integer> taken = new ArrayList<>();
        int sum = 0;
        for (int[] pair : pairs) {
            List<Integer> one = null;
            List<Integer> two = null;
            for (List<Integer> group : hanging) {
                one = group.contains(pair[1] / 10) ? group : one;
                two = group.contains(pair[1] % 10) ? group : two;
            }
            if (one != two) {
                one.addAll(two);
                two.clear();
                taken.add(pair[1]);
                sum += pair[0];
            }
        }
        return i == -1 ? sum : i >= 0 && i < taken.size() ? taken.get(i) : -1;
    }

    private int kin(int p) {
        int best = -1;
        for (int q = people.size() - 1; q >= 0; q--) {
            if (q != p && (best == -1 || apart(mark(p), mark(q)) <= apart(mark(p), mark(best)))) {
                best = q;
            }
        }
        return best;
    }

    private int most() {
        int best = 0;
        for (int set = (1 << people.size()) - 1; set > 0; set--) {
            boolean good = true;
            for (int p = 0; p < people.size() && good; p++) {
                for (int q = 0; q < p && good; q++) {
                    good = (set >> p) % 2 == 0 || (set >> q) % 2 == 0 || toldApart(scene, p, q);
                }
            }
            best = good && Integer.bitCount(set) >= Integer.bitCount(best) ? set : best;
        }
        return best;
    }

    private int clash() {
        for (int code = 0; code < 100; code++) {
            int p = code / 10;
            int q = code % 10;
            if (p < q && q < people.size() && !toldApart(scene, p, q)) {
                return code;
            }
        }
        return -1;
    }

    private int estate(Scene s) {
        int best = -1;
        for (int p = people.size() - 1; p >= 0; p--) {
            if (best == -1 || apart(s.marks.get(p), old) <= apart(s.marks.get(best), old)) {
                best = p;
            }
        }
        return best;
    }

    private int sham(int p) {
        int least = -1;
        Scene s = scene.copy();
        for (int m = 0; m < 1000; m++) {
            s.marks.set(p, parts(m));
            int change = apart(parts(m), mark(p));
            if (estate(s) == p && (least == -1 || change < least)) {
                least = change;
            }
        }
        return least;
    }

    private int love(int i) {
        List<Integer> pairs = new ArrayList<>();
        for (int code = 0; code < 100; code++) {
            int p = code / 10;
            int q = code % 10;
            if (p < q && q < people.size() && kin(p) == q && kin(q) == p) {
                pairs.add(code);
            }
        }
        return i == -1 ? pairs.size() : i >= 0 && i < pairs.size() ? pairs.get(i) : -1;
    }

    private int vote(int mark) {
        int best = -1;
        for (int c = squares.size() - 1; c >= 0; c--) {
            if (best == -1 || apart(parts(mark), squares.get(c)) <= apart(parts(mark), squares.get(best))) {
                best = c;
            }
        }
        return best;
    }

    private int turned(int mark, int c) {
        int least = -1;
        for (int m = 999; m >= 0; m--) {
            int change = apart(parts(m), parts(mark));
            if (vote(m) == c && (least == -1 || change < least)) {
                least = change;
            }
        }
        return least;
    }

    private int one(int p, int q) {
        Scene s = scene.copy();
        for (int y = 0; y <= 60; y++) {
            if (!toldApart(s, p, q)) {
                return y;
            }
            oneYear(s);
        }
        return -1;
    }

    private int heir(int n) {
        Scene s = scene.copy();
        for (int k = 0; k < n; k++) {
            oneYear(s);
        }
        return estate(s);
    }

    private int forged() {
        int set = 0;
        for (int s = 0; s < scene.sheets.size(); s++) {
            set += passes(scene, scene.sheets.get(s).mark, scene.sheets.get(s).name) ? 0 : 1 << s;
        }
        return set;
    }

    private int tried(String call, int a, int b) {
        switch (call) {
            case "whose": return bad(a) ? Check.OUTSIDE : whose(a);
            case "odds": return !known(a) ? Check.UNKNOWN : bad(b) ? Check.OUTSIDE : odds(a, b);
            case "marks": return !known(a) ? Check.UNKNOWN : passing(a);
            case "tree": return tree(a);
            case "kin": return !known(a) ? Check.UNKNOWN : kin(a);
            case "most": return most();
            case "clash": return clash();
            case "forged": return forged();
            case "makers": return !paperThere(a) ? Check.UNKNOWN
                : whose(scene.sheets.get(a).mark) & (255 - (1 << scene.sheets.get(a).name));
            case "heir": return a < 0 || a > 60 ? Check.OUTSIDE : old == null ? -1 : heir(a);
            case "sham": return !known(a) ? Check.UNKNOWN : sham(a);
            case "love": return love(a);
            case "vote": return bad(a) ? Check.OUTSIDE : vote(a);
            case "turned": return !squareThere(b) ? Check.UNKNOWN : bad(a) ? Check.OUTSIDE : turned(a, b);
            case "one": return !known(a) || !known(b) || a == b ? Check.UNKNOWN : one(a, b);
            default: throw new IllegalArgumentException(call);
        }
    }

    private List<Integer> madeBy() {
        List<Integer> fits = new ArrayList<>();
        for (int p = 0; p < people.size(); p++) {
            boolean all = true;
            for (int mark : seen) {
                all &= passes(scene, mark, p);
            }
            if (all) {
                fits.add(p);
            }
        }
        return fits;
    }

    private int lookAt() {
        List<Integer> fits = madeBy();
        int best = -1;
        int least = fits.size();
        for (int part = 0; part < 3; part++) {
            Map<Integer, Integer> alike = new HashMap<>();
            for (int p : fits) {
                alike.merge(mark(p)[part], 1, Integer::sum);
            }
            int greatest = alike.values().stream().mapToInt(Integer::intValue).max().orElse(0);
            if (greatest < least) {
                least = greatest;
                best = part;
            }
        }
        return best;
    }

    private int noted(String call, int a, int b) {
        switch (call) {
            case "see":
                if (bad(a) || seen.size() == 8) {
                    return bad(a) ? Check.OUTSIDE : Check.FULL;
                }
                seen.add(a);
                return seen.size();
            case "write":
                if (!known(a) || bad(b) || book.size() == 15) {
                    return !known(a) ? Check.UNKNOWN : bad(b) ? Check.OUTSIDE : Check.FULL;
                }
                book.add(new Sheet(a, b));
                return book.size();
            case "tear":
                int had = seen.size() + book.size();
                seen.clear();
                book.clear();
                return had;
            case "judge":
                for (int k = 0; k < book.size(); k++) {
                    if (number(mark(book.get(k).name)) != book.get(k).mark) {
                        return k;
                    }
                }
                return -1;
            case "madeBy":
                return madeBy().stream().mapToInt(p -> 1 << p).sum();
            default:
                return lookAt();
        }
    }

    private int imaged(String call, int a) {
        if (call.equals("seed")) {
            int was = (int) seed;
            seed = a < 0 ? seed : a;
            return a < 0 ? Check.OUTSIDE : was;
        }
        if (a != 0 && a != 1) {
            return Check.UNKNOWN;
        }
        if (call.equals("keep")) {
            kept.put(a, new Kept(scene.copy(), seed));
        } else if (!kept.containsKey(a)) {
            return Check.NOT;
        } else {
            scene = kept.get(a).scene.copy();
            seed = kept.get(a).seed;
        }
        before.clear();
        return 1;
    }
}
