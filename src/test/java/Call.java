/** Calls of the face by name. */
final class Call {
    private Call() { }

    static int on(SignedCross x, String name, int a, int b) {
        switch (name) {
            case "feed": return x.feed(a);
            case "clan": return x.clan();
            case "fault": return x.fault();
            case "told": return x.told(a);
            case "person": return x.person(a, b);
            case "paper": return x.paper(a, b);
            case "candidate": return x.candidate(a);
            case "year": return x.year(a);
            case "teach": return x.teach(a, b);
            case "sign": return x.sign(a, b);
            case "tearPaper": return x.tearPaper();
            case "drift": return x.drift(a);
            case "undo": return x.undo();
            case "whose": return x.whose(a);
            case "odds": return x.odds(a, b);
            case "marks": return x.marks(a);
            case "tree": return x.tree(a);
            case "kin": return x.kin(a);
            case "most": return x.most();
            case "clash": return x.clash();
            case "forged": return x.forged();
            case "makers": return x.makers(a);
            case "heir": return x.heir(a);
            case "sham": return x.sham(a);
            case "love": return x.love(a);
            case "vote": return x.vote(a);
            case "turned": return x.turned(a, b);
            case "one": return x.one(a, b);
            case "see": return x.see(a);
            case "madeBy": return x.madeBy();
            case "lookAt": return x.lookAt();
            case "write": return x.write(a, b);
            case "tear": return x.tear();
            case "judge": return x.judge();
            case "seed": return x.seed(a);
            case "keep": return x.keep(a);
            case "goBack": return x.goBack(a);
            default: throw new IllegalArgumentException(name);
        }
    }
}
