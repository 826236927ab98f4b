/**
 * A clan whose people sign with a cross: told in a text, changed by years, teaching, papers and
 * draws, and asked about. Promises and words in capitals are those of the project's document.
 */
public final class SignedCross {
    public static final int NONE = -1, UNKNOWN = -1000000001, OUTSIDE = -1000000002, NOT = -1000000003, FULL = -1000000004;

    private static final int MILLION = 1000000;
    private static final int MOST_LETTERS = 240;
    private static final int MOST_PERSONS = 8;
    private static final int MOST_PAPERS = 8;
    private static final int MOST_CANDIDATES = 4;
    private static final int MOST_SLIPS = 3;
    private static final int MOST_DRIFT = 2;
    private static final int MOST_SEEN = 8;
    private static final int MOST_ENTRIES = 15;
    private static final int MOST_UNDONE = 20;
    private static final int MOST_AT_ONCE = 60;
    private static final int LAST_YEAR = 9000;
    private static final int IMAGES = 2;
    private static final int MARKS = 1000;
    private static final int PARTS = 3;
    private static final int FIGURES = 10;
    private static final int GREATEST_LETTER = 255;
    /** Further than any two MARKS are APART. */
    private static final int FAR = 100;

    private final Reader reader;
    private final Clan clan;
    private final State now;
    /** Where what is tried changes, so that nothing else does. */
    private final State tried;
    private final History history;
    private final Image[] images;
    private final Notes notes;
    /** Which PERSONS hang together while a TREE is joined. */
    private final int[] groups;
    private int seedNow;
    private int faultAt;

    public SignedCross() {
        reader = new Reader();
        clan = new Clan();
        now = new State();
        tried = new State();
        history = new History();
        images = new Image[IMAGES];
        for (int i = 0; i < IMAGES; i++) {
            images[i] = new Image();
        }
        notes = new Notes();
        groups = new int[MOST_PERSONS];
        seedNow = 0;
        faultAt = NONE;
    }

    // ---- the clan

    public int feed(int letter) {
        if (letter < 0 || letter > GREATEST_LETTER) {
            return OUTSIDE;
        }
        if (reader.length >= MOST_LETTERS) {
            return FULL;
        }
        reader.addLetter(letter);
        return reader.length;
    }

    public int clan() {
        int kind = reader.readAll();
        reader.length = 0;
        if (kind != 0) {
            faultAt = reader.faultAt;
            return -10 - kind;
        }
        faultAt = NONE;
        clan.takeFrom(reader.draft);
        now.takeFrom(reader.start);
        notes.clearAll();
        history.forgetAll();
        for (int i = 0; i < IMAGES; i++) {
            images[i].kept = false;
        }
        return clan.persons;
    }

    public int fault() {
        return faultAt;
    }

    public int told(int what) {
        switch (what) {
            case 0: return clan.there ? 1 : 0;
            case 1: return clan.grandfather;
            case 2: return clan.persons;
            case 3: return now.papers;
            case 4: return clan.candidates;
            case 5: return reader.length;
            case 6: return now.years;
            case 7: return notes.seenCount;
            case 8: return notes.entryCount;
            case 9: return history.count;
            default: return OUTSIDE;
        }
    }

    public int person(int p, int what) {
        if (!isPerson(p)) {
            return UNKNOWN;
        }
        switch (what) {
            case 0: return now.hands[p];
            case 1: return clan.slips[p];
            case 2: return clan.drifts[p];
            case 3: return apart(now.hands[p], clan.grandfather);
            default: return OUTSIDE;
        }
    }

    public int paper(int s, int what) {
        if (!isPaper(s)) {
            return UNKNOWN;
        }
        switch (what) {
            case 0: return now.paperMarks[s];
            case 1: return now.paperNames[s];
            default: return OUTSIDE;
        }
    }

    public int candidate(int c) {
        return isCandidate(c) ? clan.squares[c] : UNKNOWN;
    }

    // ---- what is done

    public int year(int n) {
        if (n < 1 || n > MOST_AT_ONCE) {
            return OUTSIDE;
        }
        if (!clan.there) {
            return NOT;
        }
        if (now.years > LAST_YEAR) {
            return FULL;
        }
        history.push(now);
        passYears(now, n);
        return now.years;
    }

    public int teach(int p, int mark) {
        if (!isPerson(p)) {
            return UNKNOWN;
        }
        if (!isMark(mark)) {
            return OUTSIDE;
        }
        history.push(now);
        int change = apart(now.hands[p], mark);
        now.hands[p] = mark;
        return change;
    }

    public int sign(int p, int mark) {
        if (!isPerson(p)) {
            return UNKNOWN;
        }
        if (!isMark(mark)) {
            return OUTSIDE;
        }
        if (now.papers >= MOST_PAPERS) {
            return FULL;
        }
        history.push(now);
        now.addPaper(p, mark);
        return now.papers;
    }

    public int tearPaper() {
        int latest = now.papers - 1;
        if (!isPaper(latest)) {
            return NOT;
        }
        history.push(now);
        now.papers = latest;
        return now.paperMarks[latest];
    }

    public int drift(int n) {
        if (n < 1 || n > MOST_AT_ONCE) {
            return OUTSIDE;
        }
        if (!clan.there) {
            return NOT;
        }
        history.push(now);
        tried.takeFrom(now);
        if (clan.persons > 0) {
            for (int i = 0; i < n; i++) {
                shakeOnce();
            }
        }
        int others = 0;
        for (int p = 0; p < clan.persons; p++) {
            if (now.hands[p] != tried.hands[p]) {
                others++;
            }
        }
        return others;
    }

    public int undo() {
        if (history.count <= 0) {
            return NOT;
        }
        history.popInto(now);
        return history.count;
    }

    // ---- tried

    public int whose(int mark) {
        return isMark(mark) ? passSet(mark) : OUTSIDE;
    }

    public int odds(int p, int mark) {
        if (!isPerson(p)) {
            return UNKNOWN;
        }
        if (!isMark(mark)) {
            return OUTSIDE;
        }
        if (!passes(mark, p)) {
            return 0;
        }
        long all = 0;
        for (int q = 0; q < clan.persons; q++) {
            if (passes(mark, q)) {
                all += weight(q);
            }
        }
        return all <= 0 ? 0 : (int) ((long) weight(p) * MILLION / all);
    }

    public int marks(int p) {
        return isPerson(p) ? passCount(p) : UNKNOWN;
    }

    public int tree(int i) {
        for (int p = 0; p < clan.persons; p++) {
            groups[p] = p;
        }
        int all = 0;
        for (int taken = 0; taken < clan.persons - 1; taken++) {
            int pair = nextOfTree();
            if (pair == NONE) {
                break;
            }
            if (taken == i) {
                return pair;
            }
            all += apart(now.hands[pair / 10], now.hands[pair % 10]);
            joinGroups(pair / 10, pair % 10);
        }
        return i == NONE ? all : NONE;
    }

    public int kin(int p) {
        return isPerson(p) ? nearestTo(p) : UNKNOWN;
    }

    public int most() {
        int best = 0;
        int bestSize = 0;
        int end = 1 << clan.persons;
        for (int set = 1; set < end; set++) {
            int size = Integer.bitCount(set);
            if (size > bestSize && allToldApart(set)) {
                best = set;
                bestSize = size;
            }
        }
        return best;
    }

    public int clash() {
        for (int p = 0; p < clan.persons; p++) {
            for (int q = p + 1; q < clan.persons; q++) {
                if (!toldApart(now, p, q)) {
                    return 10 * p + q;
                }
            }
        }
        return NONE;
    }

    public int forged() {
        int set = 0;
        for (int s = 0; s < now.papers; s++) {
            if (!passes(now.paperMarks[s], now.paperNames[s])) {
                set |= 1 << s;
            }
        }
        return set;
    }

    public int makers(int s) {
        if (!isPaper(s)) {
            return UNKNOWN;
        }
        return passSet(now.paperMarks[s]) & ~(1 << now.paperNames[s]);
    }

    public int heir(int n) {
        if (n < 0 || n > MOST_AT_ONCE) {
            return OUTSIDE;
        }
        tried.takeFrom(now);
        passYears(tried, n);
        int best = NONE;
        int least = FAR;
        for (int p = 0; p < clan.persons; p++) {
            int far = apart(tried.hands[p], clan.grandfather);
            if (far < least) {
                least = far;
                best = p;
            }
        }
        return best;
    }

    public int sham(int p) {
        if (!isPerson(p)) {
            return UNKNOWN;
        }
        // Of like ones the least PERSON has it: those ahead of p must be beaten, the others only met.
        int allowed = FAR;
        for (int q = 0; q < clan.persons; q++) {
            if (q != p) {
                int far = apart(now.hands[q], clan.grandfather);
                allowed = Math.min(allowed, q < p ? far - 1 : far);
            }
        }
        if (allowed < 0) {
            return NONE;
        }
        // Each step towards the grandfather's MARK brings it 1 nearer, so what is too far is what must change.
        return Math.max(0, apart(now.hands[p], clan.grandfather) - allowed);
    }

    public int love(int i) {
        int count = 0;
        for (int p = 0; p < clan.persons; p++) {
            int q = nearestTo(p);
            if (q > p && nearestTo(q) == p) {
                if (count == i) {
                    return 10 * p + q;
                }
                count++;
            }
        }
        return i == NONE ? count : NONE;
    }

    public int vote(int mark) {
        return isMark(mark) ? choice(mark) : OUTSIDE;
    }

    public int turned(int mark, int c) {
        if (!isCandidate(c)) {
            return UNKNOWN;
        }
        if (!isMark(mark)) {
            return OUTSIDE;
        }
        int least = FAR;
        for (int other = 0; other < MARKS; other++) {
            int far = apart(mark, other);
            if (far < least && choice(other) == c) {
                least = far;
            }
        }
        return least == FAR ? NONE : least;
    }

    public int one(int p, int q) {
        if (!isPerson(p) || !isPerson(q) || p == q) {
            return UNKNOWN;
        }
        tried.takeFrom(now);
        for (int years = 0; years <= MOST_AT_ONCE; years++) {
            if (!toldApart(tried, p, q)) {
                return years;
            }
            passYears(tried, 1);
        }
        return NONE;
    }

    // ---- what is seen

    public int see(int mark) {
        if (!isMark(mark)) {
            return OUTSIDE;
        }
        if (notes.seenCount >= MOST_SEEN) {
            return FULL;
        }
        notes.addSeen(mark);
        return notes.seenCount;
    }

    public int madeBy() {
        int set = (1 << clan.persons) - 1;
        for (int k = 0; k < notes.seenCount; k++) {
            set &= passSet(notes.seen[k]);
        }
        return set;
    }

    public int lookAt() {
        int set = madeBy();
        int best = NONE;
        int least = Integer.bitCount(set);
        for (int part = 0; part < PARTS; part++) {
            int alike = greatestAlike(set, part);
            if (alike < least) {
                least = alike;
                best = part;
            }
        }
        return best;
    }

    public int write(int p, int mark) {
        if (!isPerson(p)) {
            return UNKNOWN;
        }
        if (!isMark(mark)) {
            return OUTSIDE;
        }
        if (notes.entryCount >= MOST_ENTRIES) {
            return FULL;
        }
        notes.addEntry(p, mark);
        return notes.entryCount;
    }

    public int tear() {
        int had = notes.seenCount + notes.entryCount;
        notes.clearAll();
        return had;
    }

    public int judge() {
        for (int k = 0; k < notes.entryCount; k++) {
            int p = notes.entryPersons[k];
            if (isPerson(p) && now.hands[p] != notes.entryMarks[k]) {
                return k;
            }
        }
        return NONE;
    }

    // ---- draws, images

    public int seed(int v) {
        if (v < 0) {
            return OUTSIDE;
        }
        int was = seedNow;
        seedNow = v;
        return was;
    }

    public int keep(int i) {
        if (!isImage(i)) {
            return UNKNOWN;
        }
        images[i].kept = true;
        images[i].state.takeFrom(now);
        images[i].seedThen = seedNow;
        history.forgetAll();
        return 1;
    }

    public int goBack(int i) {
        if (!isImage(i)) {
            return UNKNOWN;
        }
        if (!images[i].kept) {
            return NOT;
        }
        now.takeFrom(images[i].state);
        seedNow = images[i].seedThen;
        history.forgetAll();
        return 1;
    }

    // ---- what there is

    private boolean isPerson(int p) {
        return p >= 0 && p < clan.persons;
    }

    private boolean isPaper(int s) {
        return s >= 0 && s < now.papers;
    }

    private boolean isCandidate(int c) {
        return c >= 0 && c < clan.candidates;
    }

    private static boolean isImage(int i) {
        return i >= 0 && i < IMAGES;
    }

    private static boolean isMark(int mark) {
        return mark >= 0 && mark < MARKS;
    }

    // ---- MARKS

    private static int part(int mark, int which) {
        switch (which) {
            case 0: return mark / 100;
            case 1: return mark / 10 % 10;
            default: return mark % 10;
        }
    }

    private static int apart(int a, int b) {
        return Math.abs(a / 100 - b / 100) + Math.abs(a / 10 % 10 - b / 10 % 10) + Math.abs(a % 10 - b % 10);
    }

    /** Whether no PART of one is further than limit from that of the other. */
    private static boolean within(int a, int b, int limit) {
        return Math.abs(a / 100 - b / 100) <= limit
            && Math.abs(a / 10 % 10 - b / 10 % 10) <= limit
            && Math.abs(a % 10 - b % 10) <= limit;
    }

    // ---- PERSONS and their MARKS

    private boolean passes(int mark, int p) {
        return isPerson(p) && within(mark, now.hands[p], clan.slips[p]);
    }

    private int passSet(int mark) {
        int set = 0;
        for (int p = 0; p < clan.persons; p++) {
            if (passes(mark, p)) {
                set |= 1 << p;
            }
        }
        return set;
    }

    private int passCount(int p) {
        int slips = clan.slips[p];
        int count = 1;
        for (int which = 0; which < PARTS; which++) {
            int figure = part(now.hands[p], which);
            count *= Math.min(figure + slips, FIGURES - 1) - Math.max(figure - slips, 0) + 1;
        }
        return count;
    }

    private int weight(int p) {
        int count = passCount(p);
        return count <= 0 ? 0 : MILLION / count;
    }

    /** Two SLIPS that reach each other in every PART meet in a MARK between, which is within 0 .. 9. */
    private boolean toldApart(State state, int p, int q) {
        return !within(state.hands[p], state.hands[q], clan.slips[p] + clan.slips[q]);
    }

    private boolean allToldApart(int set) {
        for (int p = 0; p < clan.persons; p++) {
            for (int q = p + 1; q < clan.persons; q++) {
                boolean both = (set >> p & set >> q & 1) == 1;
                if (both && !toldApart(now, p, q)) {
                    return false;
                }
            }
        }
        return true;
    }

    private int nearestTo(int p) {
        int best = NONE;
        int least = FAR;
        for (int q = 0; q < clan.persons; q++) {
            int far = apart(now.hands[p], now.hands[q]);
            if (q != p && far < least) {
                least = far;
                best = q;
            }
        }
        return best;
    }

    /** The pair nearest to each other of those that do not hang together yet; NONE. */
    private int nextOfTree() {
        int best = NONE;
        int least = FAR;
        for (int p = 0; p < clan.persons; p++) {
            for (int q = p + 1; q < clan.persons; q++) {
                int far = apart(now.hands[p], now.hands[q]);
                if (groups[p] != groups[q] && far < least) {
                    least = far;
                    best = 10 * p + q;
                }
            }
        }
        return best;
    }

    private void joinGroups(int p, int q) {
        int from = groups[q];
        int to = groups[p];
        for (int k = 0; k < clan.persons; k++) {
            if (groups[k] == from) {
                groups[k] = to;
            }
        }
    }

    private int choice(int mark) {
        int best = NONE;
        int least = FAR;
        for (int c = 0; c < clan.candidates; c++) {
            int far = apart(mark, clan.squares[c]);
            if (far < least) {
                least = far;
                best = c;
            }
        }
        return best;
    }

    /** How many PERSONS of the set have the same figure in a PART, where these are most. */
    private int greatestAlike(int set, int which) {
        int greatest = 0;
        for (int figure = 0; figure < FIGURES; figure++) {
            int alike = 0;
            for (int p = 0; p < clan.persons; p++) {
                if ((set >> p & 1) == 1 && part(now.hands[p], which) == figure) {
                    alike++;
                }
            }
            greatest = Math.max(greatest, alike);
        }
        return greatest;
    }

    // ---- what changes MARKS

    private void passYears(State state, int n) {
        for (int k = 0; k < n; k++) {
            boolean odd = state.years % 2 == 1;
            for (int p = 0; p < clan.persons; p++) {
                state.hands[p] = aged(state.hands[p], clan.drifts[p], odd);
            }
            state.years++;
        }
    }

    private int aged(int mark, int drift, boolean odd) {
        int lean = part(mark, 0);
        int goal = part(clan.grandfather, 0);
        lean = lean < goal ? Math.min(lean + drift, goal) : Math.max(lean - drift, goal);
        int pressed = part(mark, 2);
        if (odd) {
            pressed = Math.max(pressed - 1, 0);
        }
        return 100 * lean + 10 * part(mark, 1) + pressed;
    }

    private void shakeOnce() {
        int p = draw(clan.persons);
        int which = draw(PARTS);
        int change = draw(2) == 1 ? 1 : -1;
        if (!isPerson(p)) {
            return;
        }
        int figure = part(now.hands[p], which);
        int shaken = Math.max(0, Math.min(FIGURES - 1, figure + change));
        int worth = which == 0 ? 100 : which == 1 ? 10 : 1;
        now.hands[p] += worth * (shaken - figure);
    }

    private int draw(int n) {
        seedNow = (int) ((seedNow * 1103515245L + 12345L) % 2147483648L);
        return n <= 0 ? 0 : seedNow / 65536 % n;
    }

    /** What a text tells and nothing changes but another text. */
    private static final class Clan {
        boolean there;
        int grandfather;
        int persons;
        final int[] slips = new int[MOST_PERSONS];
        final int[] drifts = new int[MOST_PERSONS];
        int candidates;
        final int[] squares = new int[MOST_CANDIDATES];

        void empty() {
            there = false;
            grandfather = 0;
            persons = 0;
            candidates = 0;
        }

        void takeFrom(Clan other) {
            there = other.there;
            grandfather = other.grandfather;
            persons = other.persons;
            candidates = other.candidates;
            System.arraycopy(other.slips, 0, slips, 0, MOST_PERSONS);
            System.arraycopy(other.drifts, 0, drifts, 0, MOST_PERSONS);
            System.arraycopy(other.squares, 0, squares, 0, MOST_CANDIDATES);
        }
    }

    /** MARKS, PAPERS, YEARS: what is done changes them, and UNDONE and IMAGES bring them back. */
    private static final class State {
        final int[] hands = new int[MOST_PERSONS];
        int papers;
        final int[] paperMarks = new int[MOST_PAPERS];
        final int[] paperNames = new int[MOST_PAPERS];
        int years;

        void empty() {
            papers = 0;
            years = 0;
        }

        void addPaper(int name, int mark) {
            if (papers >= MOST_PAPERS) {
                return;
            }
            paperNames[papers] = name;
            paperMarks[papers] = mark;
            papers++;
        }

        void takeFrom(State other) {
            papers = other.papers;
            years = other.years;
            System.arraycopy(other.hands, 0, hands, 0, MOST_PERSONS);
            System.arraycopy(other.paperMarks, 0, paperMarks, 0, MOST_PAPERS);
            System.arraycopy(other.paperNames, 0, paperNames, 0, MOST_PAPERS);
        }
    }

    /** The latest states that can be undone; next is where the next one goes, over the oldest if all are in use. */
    private static final class History {
        final State[] states = new State[MOST_UNDONE];
        int count;
        int next;

        History() {
            for (int k = 0; k < MOST_UNDONE; k++) {
                states[k] = new State();
            }
        }

        void push(State state) {
            states[next].takeFrom(state);
            next = (next + 1) % MOST_UNDONE;
            count = Math.min(count + 1, MOST_UNDONE);
        }

        void popInto(State state) {
            if (count <= 0) {
                return;
            }
            next = (next + MOST_UNDONE - 1) % MOST_UNDONE;
            count--;
            state.takeFrom(states[next]);
        }

        void forgetAll() {
            count = 0;
        }
    }

    private static final class Image {
        boolean kept;
        final State state = new State();
        int seedThen;
    }

    /** What is SEEN, and THE BOOK. */
    private static final class Notes {
        int seenCount;
        final int[] seen = new int[MOST_SEEN];
        int entryCount;
        final int[] entryPersons = new int[MOST_ENTRIES];
        final int[] entryMarks = new int[MOST_ENTRIES];

        void addSeen(int mark) {
            if (seenCount < MOST_SEEN) {
                seen[seenCount] = mark;
                seenCount++;
            }
        }

        void addEntry(int p, int mark) {
            if (entryCount < MOST_ENTRIES) {
                entryPersons[entryCount] = p;
                entryMarks[entryCount] = mark;
                entryCount++;
            }
        }

        void clearAll() {
            seenCount = 0;
            entryCount = 0;
        }
    }

    /** THE TEXT, and how it is read: into a draft, so that a FAULT leaves THE CLAN as it was. */
    private static final class Reader {
        static final int CANNOT_STAND = 1, WRONG_NUMBER = 2, ONE_TOO_MANY = 3;
        static final int MOST_FIGURES = 3;
        static final int THE_END = -1;

        final int[] letters = new int[MOST_LETTERS];
        int length;
        final Clan draft = new Clan();
        final State start = new State();
        int at;
        int fault;
        int faultAt;

        void addLetter(int letter) {
            if (length < MOST_LETTERS) {
                letters[length] = letter;
                length++;
            }
        }

        /**
         * The number of the first FAULT; 0: there is none, and the draft and the start are what is told.
         * Blanks say nothing: a text of blanks alone tells what the empty one does, no CLAN.
         */
        int readAll() {
            at = 0;
            fault = 0;
            draft.empty();
            start.empty();
            for (int clauses = 0; clauses < MOST_LETTERS && fault == 0; clauses++) {
                skipBlanks();
                if (at >= length) {
                    break;
                }
                readClause();
            }
            return fault;
        }

        private void readClause() {
            int wordAt = at;
            int word = letterHere();
            at++;
            if (!draft.there && word != 'x') {
                fail(CANNOT_STAND, wordAt);
                return;
            }
            switch (word) {
                case 'x': readGrandfather(wordAt); break;
                case 'p': readPerson(wordAt); break;
                case 's': readPaper(wordAt); break;
                case 'c': readCandidate(wordAt); break;
                default: fail(CANNOT_STAND, wordAt); break;
            }
        }

        private void readGrandfather(int wordAt) {
            if (draft.there) {
                fail(ONE_TOO_MANY, wordAt);
                return;
            }
            int mark = readNumber(MARKS - 1);
            readEnd();
            draft.grandfather = mark;
            draft.there = true;
        }

        private void readPerson(int wordAt) {
            int p = draft.persons;
            if (p >= MOST_PERSONS) {
                fail(ONE_TOO_MANY, wordAt);
                return;
            }
            start.hands[p] = readNumber(MARKS - 1);
            draft.slips[p] = readNumber(MOST_SLIPS);
            draft.drifts[p] = readNumber(MOST_DRIFT);
            readEnd();
            draft.persons++;
        }

        private void readPaper(int wordAt) {
            if (start.papers >= MOST_PAPERS) {
                fail(ONE_TOO_MANY, wordAt);
                return;
            }
            int name = readNumber(draft.persons - 1);
            int mark = readNumber(MARKS - 1);
            readEnd();
            start.addPaper(name, mark);
        }

        private void readCandidate(int wordAt) {
            int c = draft.candidates;
            if (c >= MOST_CANDIDATES) {
                fail(ONE_TOO_MANY, wordAt);
                return;
            }
            draft.squares[c] = readNumber(MARKS - 1);
            readEnd();
            draft.candidates++;
        }

        /** A NUMBER of 0 .. greatest; 0 with a FAULT. */
        private int readNumber(int greatest) {
            if (fault != 0) {
                return 0;
            }
            skipBlanks();
            int first = at;
            int value = 0;
            for (; at < length && isFigure(letterHere()); at++) {
                // More figures are a FAULT in any case, and would overflow.
                if (at - first < MOST_FIGURES) {
                    value = 10 * value + letterHere() - '0';
                }
            }
            if (at == first) {
                fail(CANNOT_STAND, at);
                return 0;
            }
            if (at - first > MOST_FIGURES || value > greatest) {
                fail(WRONG_NUMBER, first);
                return 0;
            }
            return value;
        }

        private void readEnd() {
            if (fault != 0) {
                return;
            }
            skipBlanks();
            if (letterHere() != ';') {
                fail(CANNOT_STAND, at);
                return;
            }
            at++;
        }

        private void fail(int kind, int where) {
            fault = kind;
            faultAt = where;
        }

        private void skipBlanks() {
            while (at < length && letterHere() == ' ') {
                at++;
            }
        }

        private int letterHere() {
            return at >= 0 && at < length && at < MOST_LETTERS ? letters[at] : THE_END;
        }

        private static boolean isFigure(int letter) {
            return letter >= '0' && letter <= '9';
        }
    }
}
