/** Promises 1 to 7, sentence by sentence: what is refused, and what is just not refused. */
public final class MakingEdgesTest implements Names {
    private static final Due DUE = new Due("MakingEdgesTest");

    public static void main(String[] args) {
        newObjectHasNoTerm();
        newObjectHasNoConstant();
        newObjectsAreApart();
        arrowThatIsThere();
        arrowOfNoType();
        arrowWithSixteen();
        variableOfNoName();
        variableOfNoType();
        variableWithSixty();
        constantOfNoNumber();
        constantOfNoType();
        constantOfAnotherType();
        constantIsNotDeclaredByARefusal();
        constantWithoutRoom();
        applyOfNone();
        applyOfWrongTypes();
        applyWithSixty();
        bindOfNone();
        bindOfNoVariable();
        bindOfNoProp();
        bindWithSixty();
        joinOfNone();
        joinOfWrongTypes();
        joinWithSixty();
        DUE.end();
    }

    private static Run run(String sentence) {
        return new Run(DUE, sentence);
    }

    // ---- Promise 1

    private static void newObjectHasNoTerm() {
        Run run = run("The types 0, 1, 2; no term, no theorem");
        run.terms();
        run.theorems();
        run.typeOf(0, NONE);
        run.size(0, NONE);
        run.printed(0, -1, NONE);
        run.free(0, 0, false);
        run.conclusion(0, NONE);
        run.hypotheses(0, -1);
        run.axioms(0, -1);
        run.steps(0, NONE);
        run.apply(0, 0, NONE);
        run.bind(true, 0, 0, NONE);
        run.join(true, 0, 0, NONE);
        for (int rule = 0; rule < 14; rule++) {
            run.rule(rule, 0, 0, NONE);
        }
        run.terms();
        run.theorems();
        run.arrow(2, 2, run.newType());
        run.variable(0, 2, run.newTerm());
        run.rule(REFLECT, 0, 0, run.newTheorem());
        run.end();
    }

    private static void newObjectHasNoConstant() {
        for (int n = 0; n < 4; n++) {
            for (int type = 0; type < 3; type++) {
                Run run = run("no constant");
                run.typeOf(run.constant(n, type, run.newTerm()), type);
                run.end();
            }
        }
    }

    private static void newObjectsAreApart() {
        ProofKernel first = new ProofKernel();
        ProofKernel second = new ProofKernel();
        first.arrow(0, 0);
        first.rule(AXIOM, first.constant(0, 0), 0);
        DUE.is("terms() of another object", second.terms(), 0);
        DUE.is("theorems() of another object", second.theorems(), 0);
        DUE.is("type of another object", second.variable(0, 3), NONE);
        DUE.is("constant of another object", second.constant(0, 2), 0);
        DUE.is("the first object's constant", first.constant(0, 2), KIND);
    }

    // ---- Promise 2

    private static void arrowThatIsThere() {
        Run run = run("its number (the one that it has, if it is there)");
        int first = run.arrow(0, 0, run.newType());
        int second = run.arrow(2, 0, run.newType());
        run.arrow(0, 0, first);
        run.arrow(2, 0, second);
        run.arrow(0, 2, run.newType());
        run.arrow(2, 0, second);
        run.end();
    }

    private static void arrowOfNoType() {
        Run run = run("NONE when one is no type");
        int[] none = {-1, 3, 4, 15, 16, MOST, LEAST};
        for (int type : none) {
            run.arrow(type, 0, NONE);
            run.arrow(0, type, NONE);
            run.arrow(type, type, NONE);
        }
        int made = run.arrow(2, 2, run.newType());
        run.arrow(made, 0, run.newType());
        run.arrow(5, 0, NONE);
        run.arrow(0, 5, NONE);
        run.end();
    }

    private static void arrowWithSixteen() {
        Run run = run("ROOM when there are 16");
        run.fillTypes(15);
        int last = run.arrow(0, 14, run.newType());
        run.arrow(0, 15, ROOM);
        run.arrow(15, 0, ROOM);
        run.arrow(0, 14, last);
        run.arrow(2, 2, 3);
        run.arrow(0, 16, NONE);
        run.arrow(16, 0, NONE);
        run.arrow(-1, 0, NONE);
        run.variable(0, 16, NONE);
        run.variable(0, 15, run.newTerm());
        run.end();
    }

    // ---- Promise 3

    private static void variableOfNoName() {
        Run run = run("NONE when name is not 0 .. 9");
        int[] none = {-1, 10, 11, MOST, LEAST};
        for (int name : none) {
            run.variable(name, 0, NONE);
            run.variable(name, 2, NONE);
        }
        run.terms();
        int first = run.variable(0, 0, run.newTerm());
        int last = run.variable(9, 0, run.newTerm());
        run.variable(10, 0, NONE);
        run.variable(0, 0, first);
        run.variable(9, 0, last);
        run.text(first, "aA");
        run.text(last, "jA");
        run.end();
    }

    private static void variableOfNoType() {
        Run run = run("NONE when there is no such type");
        int[] none = {-1, 3, 16, MOST, LEAST};
        for (int type : none) {
            run.variable(0, type, NONE);
            run.variable(10, type, NONE);
        }
        run.terms();
        run.variable(0, 2, run.newTerm());
        run.fillTypes(4);
        run.typeOf(run.variable(0, 3, run.newTerm()), 3);
        run.variable(0, 4, NONE);
        run.terms();
        run.end();
    }

    private static void variableWithSixty() {
        Run run = run("The variable of a name and a type, with 60 terms");
        run.fillTerms(60);
        run.variable(0, 1, ROOM);
        run.variable(0, 2, 0);
        run.variable(9, 2, 9);
        run.variable(10, 1, NONE);
        run.variable(0, 3, NONE);
        run.terms();
        run.end();
    }

    // ---- Promise 4

    private static void constantOfNoNumber() {
        Run run = run("NONE when n is not 0 .. 3");
        int[] none = {-1, 4, 5, MOST, LEAST};
        for (int n : none) {
            run.constant(n, 0, NONE);
        }
        run.terms();
        run.text(run.constant(0, 0, run.newTerm()), "0");
        run.text(run.constant(3, 0, run.newTerm()), "3");
        run.constant(4, 0, NONE);
        run.terms();
        run.end();
    }

    private static void constantOfNoType() {
        Run run = run("NONE when there is no such type");
        int c = run.constant(1, 2, run.newTerm());
        int[] none = {-1, 3, 16, MOST, LEAST};
        for (int type : none) {
            run.constant(0, type, NONE);
            run.constant(1, type, NONE);
            run.constant(4, type, NONE);
        }
        run.terms();
        run.typeOf(c, 2);
        run.fillTypes(4);
        run.constant(1, 3, KIND);
        run.typeOf(run.constant(0, 3, run.newTerm()), 3);
        run.end();
    }

    private static void constantOfAnotherType() {
        Run run = run("KIND when it was declared with another type");
        int c = run.constant(2, 1, run.newTerm());
        run.constant(2, 0, KIND);
        run.constant(2, 2, KIND);
        run.constant(2, 1, c);
        run.constant(2, 0, KIND);
        run.typeOf(c, 1);
        run.terms();
        int other = run.constant(1, 0, run.newTerm());
        run.constant(1, 1, KIND);
        run.constant(2, 1, c);
        run.constant(1, 0, other);
        run.fillTerms(60);
        run.constant(2, 0, KIND);
        run.constant(2, 1, c);
        run.constant(2, 3, NONE);
        run.end();
    }

    private static void constantIsNotDeclaredByARefusal() {
        Run run = run("it is declared with this type, if it was not yet: not by a refused call");
        run.constant(0, 3, NONE);
        run.constant(0, -1, NONE);
        int c = run.constant(0, 2, run.newTerm());
        run.constant(0, 1, KIND);
        run.constant(0, 2, c);
        run.typeOf(c, 2);
        run.end();
    }

    private static void constantWithoutRoom() {
        Run run = run("If there is no room for the term, it is not declared");
        run.fillTerms(59);
        int c = run.constant(0, 0, run.newTerm());
        run.constant(1, 0, ROOM);
        run.constant(1, 1, ROOM);
        run.constant(1, 2, ROOM);
        run.constant(1, 0, ROOM);
        run.constant(0, 1, KIND);
        run.constant(0, 0, c);
        run.terms();
        run.end();
    }

    // ---- Promise 5

    private static void applyOfNone() {
        Run run = run("apply: NONE when one is not there");
        int f = run.variable(0, run.arrow(1, 1, run.newType()), run.newTerm());
        int a = run.variable(0, 1, run.newTerm());
        int[] none = {-1, 2, 3, 59, 60, MOST, LEAST};
        for (int t : none) {
            run.apply(f, t, NONE);
            run.apply(t, a, NONE);
            run.apply(a, t, NONE);
            run.apply(t, t, NONE);
        }
        run.terms();
        int fa = run.apply(f, a, run.newTerm());
        run.apply(f, fa, run.newTerm());
        run.apply(f, 4, NONE);
        run.end();
    }

    private static void applyOfWrongTypes() {
        Run run = run("apply: KIND when the types do not fit");
        int unary = run.arrow(1, 0, run.newType());
        int binary = run.arrow(1, unary, run.newType());
        int f = run.variable(0, unary, run.newTerm());
        int g = run.variable(0, binary, run.newTerm());
        int a = run.variable(0, 1, run.newTerm());
        int p = run.variable(0, 0, run.newTerm());
        run.apply(f, p, KIND);
        run.apply(g, f, KIND);
        run.apply(g, p, KIND);
        run.apply(p, a, KIND);
        run.apply(a, a, KIND);
        run.terms();
        int ga = run.apply(g, a, run.newTerm());
        run.typeOf(ga, unary);
        run.apply(ga, p, KIND);
        run.apply(ga, ga, KIND);
        int gaa = run.apply(ga, a, run.newTerm());
        run.typeOf(gaa, 0);
        run.apply(gaa, a, KIND);
        run.text(gaa, "@@aEaBaB");
        run.end();
    }

    private static void applyWithSixty() {
        Run run = run("apply with 60 terms: what is not there and what does not fit comes first");
        int f = run.variable(0, run.arrow(1, 1, run.newType()), run.newTerm());
        int a = run.variable(0, 1, run.newTerm());
        int fa = run.apply(f, a, run.newTerm());
        run.fillTerms(60);
        run.apply(f, fa, ROOM);
        run.apply(f, a, fa);
        run.apply(f, f, KIND);
        run.apply(f, 60, NONE);
        run.terms();
        run.end();
    }

    // ---- Promise 6

    private static void bindOfNone() {
        Run run = run("bind: NONE when one is not there");
        int p = run.variable(0, 0, run.newTerm());
        int c = run.constant(0, 1, run.newTerm());
        int[] none = {-1, 2, 3, 59, 60, MOST, LEAST};
        for (int t : none) {
            run.bind(true, p, t, NONE);
            run.bind(false, t, p, NONE);
            run.bind(true, t, c, NONE);
            run.bind(false, c, t, NONE);
        }
        run.terms();
        int all = run.bind(true, p, p, run.newTerm());
        run.bind(false, p, all, run.newTerm());
        run.typeOf(3, run.newType());
        run.bind(false, p, 4, NONE);
        run.end();
    }

    private static void bindOfNoVariable() {
        Run run = run("bind: KIND when v is no variable");
        int p = run.variable(0, 0, run.newTerm());
        int f = run.variable(0, run.arrow(0, 0, run.newType()), run.newTerm());
        int[] others = {
            run.constant(0, 0, run.newTerm()), run.apply(f, p, run.newTerm()),
            run.bind(false, p, f, run.newTerm()), run.bind(true, p, p, run.newTerm()),
            run.join(false, p, p, run.newTerm()), run.join(true, f, f, run.newTerm())
        };
        run.newType();
        for (int other : others) {
            run.bind(true, other, p, KIND);
            run.bind(false, other, p, KIND);
        }
        run.terms();
        run.bind(true, f, p, run.newTerm());
        run.bind(false, f, p, run.newTerm());
        run.newType();
        run.arrow(1, 1, run.newType());
        run.end();
    }

    private static void bindOfNoProp() {
        Run run = run("bind: KIND when all and t is not PROP");
        int p = run.variable(0, 0, run.newTerm());
        int a = run.variable(0, 1, run.newTerm());
        int c = run.variable(0, 2, run.newTerm());
        int f = run.bind(false, a, p, run.newTerm());
        run.typeOf(f, run.newType());
        run.bind(true, p, a, KIND);
        run.bind(true, p, c, KIND);
        run.bind(true, a, f, KIND);
        run.terms();
        run.bind(false, p, a, run.newTerm());
        run.newType();
        run.bind(true, p, p, run.newTerm());
        run.bind(true, c, run.apply(f, a, run.newTerm()), run.newTerm());
        run.arrow(2, 2, run.newType());
        run.end();
    }

    private static void bindWithSixty() {
        Run run = run("bind with 60 terms: what is not there or of no use comes first");
        int p = run.variable(0, 0, run.newTerm());
        int a = run.variable(0, 1, run.newTerm());
        int all = run.bind(true, p, p, run.newTerm());
        int abstraction = run.bind(false, p, p, run.newTerm());
        run.newType();
        run.fillTerms(60);
        run.bind(true, a, p, ROOM);
        run.bind(false, a, p, ROOM);
        run.bind(true, p, p, all);
        run.bind(false, p, p, abstraction);
        run.bind(true, p, a, KIND);
        run.bind(false, all, a, KIND);
        run.bind(true, 60, a, NONE);
        run.bind(false, a, 60, NONE);
        run.arrow(1, 0, run.newType());
        run.terms();
        run.end();
    }

    // ---- Promise 7

    private static void joinOfNone() {
        Run run = run("join: NONE when one is not there");
        int p = run.variable(0, 0, run.newTerm());
        int a = run.variable(0, 1, run.newTerm());
        int[] none = {-1, 2, 3, 59, 60, MOST, LEAST};
        for (int t : none) {
            run.join(true, p, t, NONE);
            run.join(true, t, a, NONE);
            run.join(false, p, t, NONE);
            run.join(false, t, p, NONE);
            run.join(false, a, t, NONE);
            run.join(true, t, t, NONE);
        }
        run.terms();
        run.join(true, p, p, run.newTerm());
        run.join(false, p, 2, run.newTerm());
        run.join(true, p, 4, NONE);
        run.end();
    }

    private static void joinOfWrongTypes() {
        Run run = run("join: KIND when they are not PROP, or not of one type");
        int p = run.variable(0, 0, run.newTerm());
        int a = run.variable(0, 1, run.newTerm());
        int c = run.variable(0, 2, run.newTerm());
        int f = run.variable(0, run.arrow(1, 0, run.newType()), run.newTerm());
        run.join(false, a, a, KIND);
        run.join(false, p, a, KIND);
        run.join(false, c, p, KIND);
        run.join(false, f, f, KIND);
        run.join(true, a, c, KIND);
        run.join(true, p, a, KIND);
        run.join(true, f, p, KIND);
        run.terms();
        int fa = run.apply(f, a, run.newTerm());
        run.text(run.join(false, fa, p, run.newTerm()), ">@aDaBaA");
        run.text(run.join(true, a, a, run.newTerm()), "=aBaB");
        run.text(run.join(true, fa, p, run.newTerm()), "=@aDaBaA");
        run.end();
    }

    private static void joinWithSixty() {
        Run run = run("join with 60 terms: what is not there and what does not fit comes first");
        int p = run.variable(0, 0, run.newTerm());
        int a = run.variable(0, 1, run.newTerm());
        int implied = run.join(false, p, p, run.newTerm());
        int equal = run.join(true, a, a, run.newTerm());
        run.fillTerms(60);
        run.join(true, p, p, ROOM);
        run.join(false, p, implied, ROOM);
        run.join(false, p, p, implied);
        run.join(true, a, a, equal);
        run.join(true, p, a, KIND);
        run.join(false, a, a, KIND);
        run.join(true, p, 60, NONE);
        run.join(false, 60, p, NONE);
        run.terms();
        run.end();
    }
}
