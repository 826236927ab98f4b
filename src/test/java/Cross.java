/** A SignedCross whose calls are counted: behind the 512th nothing is promised, so no test may lean on an answer there. */
final class Cross {
    static final int MOST_CALLS = 512;

    private final SignedCross x = new SignedCross();
    private int calls;

    int callsLeft() {
        return MOST_CALLS - calls;
    }

    private SignedCross used() {
        calls++;
        if (calls > MOST_CALLS) {
            throw new IllegalStateException("a test uses an object for more than " + MOST_CALLS + " calls");
        }
        return x;
    }

    int feed(int a) { return used().feed(a); }
    int clan() { return used().clan(); }
    int fault() { return used().fault(); }
    int told(int a) { return used().told(a); }
    int person(int a, int b) { return used().person(a, b); }
    int paper(int a, int b) { return used().paper(a, b); }
    int candidate(int a) { return used().candidate(a); }
    int year(int a) { return used().year(a); }
    int teach(int a, int b) { return used().teach(a, b); }
    int sign(int a, int b) { return used().sign(a, b); }
    int tearPaper() { return used().tearPaper(); }
    int drift(int a) { return used().drift(a); }
    int undo() { return used().undo(); }
    int whose(int a) { return used().whose(a); }
    int odds(int a, int b) { return used().odds(a, b); }
    int marks(int a) { return used().marks(a); }
    int tree(int a) { return used().tree(a); }
    int kin(int a) { return used().kin(a); }
    int most() { return used().most(); }
    int clash() { return used().clash(); }
    int forged() { return used().forged(); }
    int makers(int a) { return used().makers(a); }
    int heir(int a) { return used().heir(a); }
    int sham(int a) { return used().sham(a); }
    int love(int a) { return used().love(a); }
    int vote(int a) { return used().vote(a); }
    int turned(int a, int b) { return used().turned(a, b); }
    int one(int a, int b) { return used().one(a, b); }
    int see(int a) { return used().see(a); }
    int madeBy() { return used().madeBy(); }
    int lookAt() { return used().lookAt(); }
    int write(int a, int b) { return used().write(a, b); }
    int tear() { return used().tear(); }
    int judge() { return used().judge(); }
    int seed(int a) { return used().seed(a); }
    int keep(int a) { return used().keep(a); }
    int goBack(int a) { return used().goBack(a); }

    /** A call as it is written, such as "teach(0, 999)". */
    int ask(String call) {
        int open = call.indexOf('(');
        String inside = call.substring(open + 1, call.length() - 1).trim();
        String[] numbers = inside.isEmpty() ? new String[0] : inside.split(",");
        int a = numbers.length > 0 ? Integer.parseInt(numbers[0].trim()) : 0;
        int b = numbers.length > 1 ? Integer.parseInt(numbers[1].trim()) : 0;
        return ask(call.substring(0, open), a, b);
    }

    int ask(String name, int a, int b) {
        switch (name) {
            case "feed": return feed(a);
            case "clan": return clan();
            case "fault": return fault();
            case "told": return told(a);
            case "person": return person(a, b);
            case "paper": return paper(a, b);
            case "candidate": return candidate(a);
            case "year": return year(a);
            case "teach": return teach(a, b);
            case "sign": return sign(a, b);
            case "tearPaper": return tearPaper();
            case "drift": return drift(a);
            case "undo": return undo();
            case "whose": return whose(a);
            case "odds": return odds(a, b);
            case "marks": return marks(a);
            case "tree": return tree(a);
            case "kin": return kin(a);
            case "most": return most();
            case "clash": return clash();
            case "forged": return forged();
            case "makers": return makers(a);
            case "heir": return heir(a);
            case "sham": return sham(a);
            case "love": return love(a);
            case "vote": return vote(a);
            case "turned": return turned(a, b);
            case "one": return one(a, b);
            case "see": return see(a);
            case "madeBy": return madeBy();
            case "lookAt": return lookAt();
            case "write": return write(a, b);
            case "tear": return tear();
            case "judge": return judge();
            case "seed": return seed(a);
            case "keep": return keep(a);
            case "goBack": return goBack(a);
            default: throw new IllegalArgumentException(name);
        }
    }
}
