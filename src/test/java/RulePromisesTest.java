/** Promises 8, 10 and 15 to 18: the rules and the theorems. */
public final class RulePromisesTest implements Names {
    private static final Due DUE = new Due("RulePromisesTest");

    public static void main(String[] args) {
        axiomAndAssume();
        discharge();
        detach();
        general();
        special();
        specialKeepsNamesApart();
        reflectAndTurn();
        chain();
        applyRule();
        abstractRule();
        abstractMakesItsType();
        abstractRefusedMakesNoType();
        beta();
        betaUnderBinders();
        replace();
        substitute();
        substituteKeepsNamesApart();
        substituteOrder();
        substituteMergesHypotheses();
        substituteWithoutRoom();
        orderOfRefusals();
        fortyTheorems();
        sixtyTerms();
        questionsWithoutTheorem();
        axioms();
        steps();
        DUE.end();
    }

    /** A theorem as text: its hypotheses in the order of their numbers, then its conclusion. */
    private static String theorem(ProofKernel x, int k) {
        StringBuilder text = new StringBuilder();
        for (int t = 0; t < 60; t++) {
            if ((x.hypotheses(k) >> t & 1) == 1) {
                text.append(Due.text(x, t)).append(' ');
            }
        }
        return text.append("|- ").append(Due.text(x, x.conclusion(k))).toString();
    }

    private static void refused(String what, ProofKernel x, int rule, int a, int b, int want) {
        String before = Due.state(x);
        DUE.is(what, x.rule(rule, a, b), want);
        DUE.is(what + ", the state behind it", Due.state(x), before);
    }

    private static void axiomAndAssume() {
        ProofKernel x = new ProofKernel();
        int p = x.variable(0, 0);
        int a = x.variable(0, 1);
        DUE.is("AXIOM p", x.rule(AXIOM, p, LEAST), 0);
        DUE.is("ASSUME p", x.rule(ASSUME, p, MOST), 1);
        DUE.is("ASSUME p again", x.rule(ASSUME, p, 0), 2);
        DUE.is("AXIOM p", theorem(x, 0), "|- aA");
        DUE.is("ASSUME p", theorem(x, 1), "aA |- aA");
        DUE.is("conclusion", x.conclusion(1), p);
        DUE.is("hypotheses", x.hypotheses(1), 1);
        refused("AXIOM a", x, AXIOM, a, 0, KIND);
        refused("ASSUME a", x, ASSUME, a, 0, KIND);
        refused("AXIOM of none", x, AXIOM, 2, 0, NONE);
        refused("ASSUME of none", x, ASSUME, -1, 0, NONE);
        refused("ASSUME MOST", x, ASSUME, MOST, 0, NONE);
        refused("rule -1", x, -1, p, 0, NONE);
        refused("rule 14", x, 14, p, 0, NONE);
        refused("rule MOST", x, MOST, p, 0, NONE);
        refused("rule LEAST", x, LEAST, p, 0, NONE);
        DUE.is("theorems()", x.theorems(), 3);
    }

    private static void discharge() {
        ProofKernel x = new ProofKernel();
        int p = x.variable(0, 0);
        int q = x.variable(1, 0);
        int a = x.variable(0, 1);
        int assumed = x.rule(ASSUME, p, 0);
        DUE.is("without q, which is not assumed", theorem(x, x.rule(DISCHARGE, assumed, q)),
                "aA |- >bAaA");
        DUE.is("without p", theorem(x, x.rule(DISCHARGE, assumed, p)), "|- >aAaA");
        refused("a", x, DISCHARGE, assumed, a, KIND);
        refused("no term", x, DISCHARGE, assumed, 60, NONE);
        refused("no theorem", x, DISCHARGE, 3, p, NONE);
        refused("term and theorem in the wrong order", x, DISCHARGE, 4, 0, NONE);
    }

    private static void detach() {
        ProofKernel x = new ProofKernel();
        int p = x.variable(0, 0);
        int q = x.variable(1, 0);
        int pq = x.join(false, p, q);
        int equal = x.join(true, p, q);
        int implied = x.rule(ASSUME, pq, 0);
        int assumed = x.rule(ASSUME, p, 0);
        int other = x.rule(ASSUME, q, 0);
        int equation = x.rule(ASSUME, equal, 0);
        DUE.is("DETACH", theorem(x, x.rule(DETACH, implied, assumed)), "aA >aAbA |- bA");
        refused("not p", x, DETACH, implied, other, KIND);
        refused("no implication", x, DETACH, assumed, implied, KIND);
        refused("an equation", x, DETACH, equation, assumed, KIND);
        refused("itself", x, DETACH, implied, implied, KIND);
        refused("no second", x, DETACH, implied, 5, NONE);
        refused("no first", x, DETACH, -1, assumed, NONE);
    }

    private static void general() {
        ProofKernel x = new ProofKernel();
        int p = x.variable(0, 0);
        int q = x.variable(1, 0);
        int a = x.variable(0, 1);
        int pq = x.join(false, p, q);
        int axiom = x.rule(AXIOM, pq, 0);
        int assumed = x.rule(DISCHARGE, x.rule(ASSUME, q, 0), p);
        int closed = x.rule(ASSUME, x.bind(true, p, p), 0);
        DUE.is("of an axiom", theorem(x, x.rule(GENERAL, axiom, p)), "|- !A>zbA");
        DUE.is("beside a hypothesis", theorem(x, x.rule(GENERAL, assumed, p)), "bA |- !A>zbA");
        DUE.is("a name of another type", theorem(x, x.rule(GENERAL, assumed, a)), "bA |- !B>aAbA");
        DUE.is("bound in a hypothesis", theorem(x, x.rule(GENERAL, closed, p)), "!Az |- !A!Az");
        refused("free in a hypothesis", x, GENERAL, assumed, q, BOUND);
        refused("no variable", x, GENERAL, axiom, pq, KIND);
        refused("no variable, beside a hypothesis", x, GENERAL, assumed, pq, KIND);
        refused("no theorem", x, GENERAL, x.theorems(), p, NONE);
        refused("no term", x, GENERAL, assumed, x.terms(), NONE);
    }

    private static void special() {
        ProofKernel x = new ProofKernel();
        int predicate = x.arrow(1, 0);
        int f = x.variable(0, predicate);
        int a = x.variable(1, 1);
        int c = x.constant(0, 1);
        int p = x.variable(2, 0);
        int all = x.bind(true, a, x.apply(f, a));
        int axiom = x.rule(AXIOM, all, 0);
        int assumed = x.rule(ASSUME, all, 0);
        DUE.is("with c", theorem(x, x.rule(SPECIAL, axiom, c)), "|- @aD0");
        DUE.is("with a", theorem(x, x.rule(SPECIAL, assumed, a)), "!B@aDz |- @aDbB");
        refused("another type", x, SPECIAL, axiom, p, KIND);
        refused("no quantification", x, SPECIAL, 2, a, KIND);
        refused("no term", x, SPECIAL, axiom, -1, NONE);
        refused("no theorem", x, SPECIAL, -1, a, NONE);
        int abstraction = x.bind(false, a, p);
        int equation = x.rule(REFLECT, abstraction, 0);
        refused("an equation of abstractions", x, SPECIAL, equation, a, KIND);
    }

    private static void specialKeepsNamesApart() {
        ProofKernel x = new ProofKernel();
        int p = x.variable(0, 0);
        int q = x.variable(1, 0);
        int r = x.variable(2, 0);
        int both = x.join(false, p, x.bind(true, q, x.join(false, p, x.join(false, q, r))));
        int axiom = x.rule(AXIOM, x.bind(true, p, both), 0);
        DUE.is("for all p", theorem(x, axiom), "|- !A>z!A>y>zcA");
        DUE.is("q is not caught", theorem(x, x.rule(SPECIAL, axiom, q)), "|- >bA!A>bA>zcA");
        int qr = x.join(true, q, r);
        DUE.is("a larger one", theorem(x, x.rule(SPECIAL, axiom, qr)),
                "|- >=bAcA!A>=bAcA>zcA");
        int closed = x.bind(true, q, q);
        DUE.is("one with a binder", theorem(x, x.rule(SPECIAL, axiom, closed)),
                "|- >!Az!A>!Az>zcA");
        int inner = x.rule(AXIOM, x.bind(true, q, x.bind(true, r, x.join(true, q, r))), 0);
        int once = x.rule(SPECIAL, inner, r);
        DUE.is("r is not caught", theorem(x, once), "|- !A=cAz");
        DUE.is("twice", theorem(x, x.rule(SPECIAL, once, p)), "|- =cAaA");
        int large = x.join(false, x.join(false, qr, qr), x.join(false, qr, qr));
        refused("too large", x, SPECIAL, axiom, large, ROOM);
    }

    private static void reflectAndTurn() {
        ProofKernel x = new ProofKernel();
        int a = x.variable(0, 1);
        int b = x.variable(1, 1);
        int p = x.variable(0, 0);
        int ab = x.join(true, a, b);
        int reflected = x.rule(REFLECT, a, LEAST);
        int assumed = x.rule(ASSUME, ab, 0);
        int proposition = x.rule(ASSUME, p, 0);
        int implication = x.rule(DISCHARGE, proposition, p);
        DUE.is("REFLECT a", theorem(x, reflected), "|- =aBaB");
        DUE.is("TURN a = b", theorem(x, x.rule(TURN, assumed, MOST)), "=aBbB |- =bBaB");
        DUE.is("TURN a = a", theorem(x, x.rule(TURN, reflected, 0)), "|- =aBaB");
        refused("REFLECT of none", x, REFLECT, x.terms(), 0, NONE);
        refused("TURN of none", x, TURN, x.theorems(), 0, NONE);
        refused("TURN p", x, TURN, proposition, 0, KIND);
        refused("TURN an implication", x, TURN, implication, 0, KIND);
        int three = x.join(false, p, p);
        int seven = x.join(false, three, three);
        int fifteen = x.join(false, seven, seven);
        int fourteen = x.bind(true, p, x.join(false, seven, x.join(false, p, three)));
        refused("REFLECT of size 15", x, REFLECT, fifteen, 0, ROOM);
        DUE.is("REFLECT of size 14", x.size(x.conclusion(x.rule(REFLECT, fourteen, 0))), 29);
    }

    private static void chain() {
        ProofKernel x = new ProofKernel();
        int a = x.variable(0, 1);
        int b = x.variable(1, 1);
        int c = x.variable(2, 1);
        int ab = x.rule(ASSUME, x.join(true, a, b), 0);
        int bc = x.rule(ASSUME, x.join(true, b, c), 0);
        int p = x.rule(ASSUME, x.variable(0, 0), 0);
        int implied = x.rule(DISCHARGE, p, x.variable(0, 0));
        DUE.is("CHAIN", theorem(x, x.rule(CHAIN, ab, bc)), "=aBbB =bBcB |- =aBcB");
        refused("other order", x, CHAIN, bc, ab, KIND);
        refused("p first", x, CHAIN, p, ab, KIND);
        refused("p second", x, CHAIN, ab, p, KIND);
        refused("implications", x, CHAIN, implied, implied, KIND);
        refused("no second", x, CHAIN, ab, -1, NONE);
        refused("no first", x, CHAIN, 40, bc, NONE);
        int first = x.bind(false, a, a);
        int same = x.bind(false, b, b);
        int reflected = x.rule(REFLECT, first, 0);
        DUE.is("names of bound variables", x.rule(CHAIN, reflected, x.rule(REFLECT, same, 0)),
                x.theorems() - 1);
    }

    private static void applyRule() {
        ProofKernel x = new ProofKernel();
        int unary = x.arrow(1, 2);
        int f = x.variable(0, unary);
        int g = x.variable(1, unary);
        int a = x.variable(0, 1);
        int b = x.variable(1, 1);
        int c = x.constant(0, 2);
        int fg = x.rule(ASSUME, x.join(true, f, g), 0);
        int ab = x.rule(ASSUME, x.join(true, a, b), 0);
        int cc = x.rule(REFLECT, c, 0);
        int p = x.rule(ASSUME, x.variable(0, 0), 0);
        int terms = x.terms();
        int applied = x.rule(APPLY, fg, ab);
        DUE.is("APPLY", theorem(x, applied), "=aDbD =aBbB |- =@aDaB@bDbB");
        DUE.is("the conclusion alone is kept", x.terms(), terms + 1);
        DUE.is("type of its sides", x.join(true, x.apply(f, a), x.apply(g, b)),
                x.conclusion(applied));
        refused("a to f", x, APPLY, ab, fg, KIND);
        refused("f to c", x, APPLY, fg, cc, KIND);
        refused("f to f", x, APPLY, fg, fg, KIND);
        refused("p first", x, APPLY, p, ab, KIND);
        refused("p second", x, APPLY, fg, p, KIND);
        refused("no first", x, APPLY, 9, ab, NONE);
        refused("no second", x, APPLY, fg, 9, NONE);
        DUE.is("REFLECT of it", theorem(x, x.rule(REFLECT, x.apply(f, a), 0)), "|- =@aDaB@aDaB");
    }

    private static void abstractRule() {
        ProofKernel x = new ProofKernel();
        int a = x.variable(0, 1);
        int b = x.variable(1, 1);
        int p = x.variable(0, 0);
        int ab = x.join(true, a, b);
        int axiom = x.rule(AXIOM, ab, 0);
        int assumed = x.rule(ASSUME, ab, 0);
        int proposition = x.rule(AXIOM, p, 0);
        int terms = x.terms();
        DUE.is("ABSTRACT a", theorem(x, x.rule(ABSTRACT, axiom, a)), "|- =/Bz/BbB");
        DUE.is("the conclusion alone is kept", x.terms(), terms + 1);
        DUE.is("ABSTRACT b", theorem(x, x.rule(ABSTRACT, axiom, b)), "|- =/BaB/Bz");
        DUE.is("ABSTRACT p", theorem(x, x.rule(ABSTRACT, assumed, p)), "=aBbB |- =/AaB/AbB");
        DUE.is("type of the sides", x.typeOf(x.bind(false, a, a)), 3);
        DUE.is("type of the sides for p", x.typeOf(x.bind(false, p, a)), 4);
        refused("free in a hypothesis", x, ABSTRACT, assumed, b, BOUND);
        refused("no equation", x, ABSTRACT, proposition, a, KIND);
        refused("no variable", x, ABSTRACT, axiom, ab, KIND);
        refused("no variable, beside a hypothesis", x, ABSTRACT, assumed, ab, KIND);
        refused("no theorem", x, ABSTRACT, 40, a, NONE);
        refused("no term", x, ABSTRACT, axiom, 40, NONE);
        int inner = x.bind(false, b, a);
        int nested = x.rule(AXIOM, x.join(true, inner, x.bind(false, a, a)), 0);
        DUE.is("under a binder", theorem(x, x.rule(ABSTRACT, nested, a)), "|- =/B/By/B/Bz");
    }

    private static void abstractMakesItsType() {
        ProofKernel x = new ProofKernel();
        int a = x.variable(0, 1);
        int c = x.variable(0, 2);
        int reflected = x.rule(REFLECT, a, 0);
        DUE.is("ABSTRACT c", x.rule(ABSTRACT, reflected, c), 1);
        DUE.is("its type came", x.arrow(2, 1), 3);
        DUE.is("one alone", x.arrow(1, 2), 4);
        DUE.is("a variable of it", x.variable(0, 3), 4);
    }

    private static void abstractRefusedMakesNoType() {
        ProofKernel x = new ProofKernel();
        int a = x.variable(0, 1);
        int c = x.variable(0, 2);
        int reflected = x.rule(REFLECT, a, 0);
        for (int type = 3; type < 15; type++) {
            x.arrow(2, type - 1);
        }
        DUE.is("16th type", x.rule(ABSTRACT, reflected, a), 1);
        refused("17th type", x, ABSTRACT, reflected, c, ROOM);
        DUE.is("type that is there", x.rule(ABSTRACT, reflected, x.variable(1, 1)), 2);
        DUE.is("arrow(1, 1)", x.arrow(1, 1), 15);

        ProofKernel large = new ProofKernel();
        int p = large.variable(0, 0);
        int three = large.join(false, p, p);
        int seven = large.join(false, three, three);
        int fourteen = large.bind(true, p, large.join(false, seven, large.join(false, p, three)));
        int equation = large.rule(REFLECT, fourteen, 0);
        refused("too large", large, ABSTRACT, equation, p, ROOM);
        DUE.is("so no type came", large.arrow(1, 1), 3);
    }

    private static void beta() {
        ProofKernel x = new ProofKernel();
        int f = x.variable(0, x.arrow(1, 1));
        int a = x.variable(0, 1);
        int b = x.variable(1, 1);
        int fa = x.apply(f, a);
        int twice = x.bind(false, a, x.apply(f, fa));
        int redex = x.apply(twice, b);
        int terms = x.terms();
        int made = x.rule(BETA, redex, LEAST);
        DUE.is("BETA", theorem(x, made), "|- =@/B@aD@aDzbB@aD@aDbB");
        DUE.is("the conclusion alone is kept", x.terms(), terms + 1);
        DUE.is("the variable is not used", theorem(x, x.rule(BETA,
                x.apply(x.bind(false, a, b), fa), 0)), "|- =@/BbB@aDaBbB");
        refused("no application of an abstraction", x, BETA, fa, 0, KIND);
        refused("an abstraction", x, BETA, twice, 0, KIND);
        refused("a variable", x, BETA, a, 0, KIND);
        int equation = x.join(true, twice, twice);
        refused("an equation of abstractions", x, BETA, equation, 0, KIND);
        refused("of none", x, BETA, x.terms(), 0, NONE);
        refused("inside alone", x, BETA, x.apply(f, redex), 0, KIND);
    }

    private static void betaUnderBinders() {
        ProofKernel x = new ProofKernel();
        int a = x.variable(0, 1);
        int b = x.variable(1, 1);
        int first = x.bind(false, a, x.bind(false, b, a));
        DUE.is("first", Due.text(x, first), "/B/By");
        DUE.is("b is not caught", theorem(x, x.rule(BETA, x.apply(first, b), 0)),
                "|- =@/B/BybB/BbB");
        int second = x.bind(false, a, x.bind(false, b, b));
        DUE.is("the inner one stays", theorem(x, x.rule(BETA, x.apply(second, b), 0)),
                "|- =@/B/BzbB/Bz");
        int p = x.variable(0, 0);
        int q = x.variable(1, 0);
        int mixed = x.bind(false, p,
                x.join(false, x.bind(true, q, x.join(true, q, p)), x.join(true, p, q)));
        DUE.is("mixed", Due.text(x, mixed), "/A>!A=zy=zbA");
        DUE.is("beside and under a binder", theorem(x, x.rule(BETA, x.apply(mixed, q), 0)),
                "|- =@/A>!A=zy=zbAbA>!A=zbA=bAbA");
    }

    private static void replace() {
        ProofKernel x = new ProofKernel();
        int p = x.variable(0, 0);
        int q = x.variable(1, 0);
        int a = x.variable(0, 1);
        int equal = x.rule(ASSUME, x.join(true, p, q), 0);
        int assumed = x.rule(ASSUME, p, 0);
        int other = x.rule(ASSUME, q, 0);
        int reflected = x.rule(REFLECT, a, 0);
        int implied = x.rule(ASSUME, x.join(false, p, q), 0);
        DUE.is("REPLACE", theorem(x, x.rule(REPLACE, equal, assumed)), "aA =aAbA |- bA");
        refused("q", x, REPLACE, equal, other, KIND);
        refused("no equation", x, REPLACE, assumed, equal, KIND);
        refused("an implication", x, REPLACE, implied, assumed, KIND);
        refused("not PROP", x, REPLACE, reflected, assumed, KIND);
        refused("no first", x, REPLACE, -1, assumed, NONE);
        refused("no second", x, REPLACE, equal, -1, NONE);
    }

    private static int pair(int v, int s) {
        return 64 * v + s;
    }

    private static void substitute() {
        ProofKernel x = new ProofKernel();
        int p = x.variable(0, 0);
        int q = x.variable(1, 0);
        int a = x.variable(0, 1);
        int pq = x.join(false, p, q);
        int assumed = x.rule(ASSUME, pq, 0);
        int made = x.rule(SUBSTITUTE, assumed, pair(p, pq));
        DUE.is("SUBSTITUTE", theorem(x, made), ">>aAbAbA |- >>aAbAbA");
        DUE.is("one term for both", x.terms(), 5);
        DUE.is("with itself", theorem(x, x.rule(SUBSTITUTE, assumed, pair(p, p))), ">aAbA |- >aAbA");
        DUE.is("not free", theorem(x, x.rule(SUBSTITUTE, assumed, pair(a, a))), ">aAbA |- >aAbA");
        refused("other types", x, SUBSTITUTE, assumed, pair(p, a), KIND);
        refused("no variable", x, SUBSTITUTE, assumed, pair(pq, p), KIND);
        refused("no term s", x, SUBSTITUTE, assumed, pair(p, 5), NONE);
        refused("no term s, 63", x, SUBSTITUTE, assumed, pair(p, 63), NONE);
        refused("no term v", x, SUBSTITUTE, assumed, pair(5, p), NONE);
        refused("no term v, 60", x, SUBSTITUTE, assumed, pair(60, 0), NONE);
        refused("no theorem", x, SUBSTITUTE, 40, pair(p, q), NONE);
        refused("-1", x, SUBSTITUTE, assumed, -1, NONE);
        refused("-64", x, SUBSTITUTE, assumed, -64, NONE);
        refused("-63", x, SUBSTITUTE, assumed, -63, NONE);
        refused("MOST", x, SUBSTITUTE, assumed, MOST, NONE);
        refused("LEAST", x, SUBSTITUTE, assumed, LEAST, NONE);
        int bound = x.rule(ASSUME, x.bind(true, p, pq), 0);
        DUE.is("bound", theorem(x, x.rule(SUBSTITUTE, bound, pair(p, q))), "!A>zbA |- !A>zbA");
    }

    private static void substituteKeepsNamesApart() {
        ProofKernel x = new ProofKernel();
        int p = x.variable(0, 0);
        int q = x.variable(1, 0);
        int all = x.bind(true, q, x.join(false, p, q));
        int assumed = x.rule(ASSUME, all, 0);
        DUE.is("q is not caught", theorem(x, x.rule(SUBSTITUTE, assumed, pair(p, q))),
                "!A>bAz |- !A>bAz");
        DUE.is("a binder inside", theorem(x, x.rule(SUBSTITUTE, assumed, pair(p, all))),
                "!A>!A>aAzz |- !A>!A>aAzz");
    }

    private static void substituteOrder() {
        ProofKernel x = new ProofKernel();
        int p = x.variable(0, 0);
        int q = x.variable(1, 0);
        int late = x.join(false, p, q);
        int early = x.join(true, p, q);
        // The later theorem is assumed first: the numbers of the terms count, not how it was made.
        int first = x.rule(DISCHARGE, x.rule(ASSUME, early, 0), p);
        int second = x.rule(ASSUME, late, 0);
        int both = x.rule(DETACH, x.rule(DISCHARGE, first, late), second);
        DUE.is("hypotheses", theorem(x, both), ">aAbA =aAbA |- >aA=aAbA");
        int terms = x.terms();
        int made = x.rule(SUBSTITUTE, both, pair(p, early));
        DUE.is("made", theorem(x, made), ">=aAbAbA ==aAbAbA |- >=aAbA==aAbAbA");
        DUE.is("first hypothesis", Due.text(x, terms), ">=aAbAbA");
        DUE.is("second hypothesis", Due.text(x, terms + 1), "==aAbAbA");
        DUE.is("conclusion", x.conclusion(made), terms + 2);
    }

    private static void substituteMergesHypotheses() {
        ProofKernel x = new ProofKernel();
        int p = x.variable(0, 0);
        int q = x.variable(1, 0);
        int implied = x.rule(DISCHARGE, x.rule(DISCHARGE, x.rule(ASSUME, q, 0), q), p);
        DUE.is("implied", theorem(x, implied), "|- >aA>bAbA");
        int both = x.rule(DETACH, x.rule(DETACH, implied, x.rule(ASSUME, p, 0)),
                x.rule(ASSUME, q, 0));
        DUE.is("both", theorem(x, both), "aA bA |- bA");
        int terms = x.terms();
        DUE.is("p for q", theorem(x, x.rule(SUBSTITUTE, both, pair(q, p))), "aA |- aA");
        DUE.is("q for p", theorem(x, x.rule(SUBSTITUTE, both, pair(p, q))), "bA |- bA");
        DUE.is("terms()", x.terms(), terms);
    }

    private static void substituteWithoutRoom() {
        ProofKernel x = new ProofKernel();
        int p = x.variable(0, 0);
        int q = x.variable(1, 0);
        int r = x.variable(2, 0);
        int pq = x.join(true, p, q);
        int first = x.rule(DISCHARGE, x.rule(ASSUME, pq, 0), p);
        int made = x.rule(DETACH, first, x.rule(ASSUME, p, 0));
        DUE.is("made", theorem(x, made), "aA =aAbA |- =aAbA");
        int implied = x.rule(DISCHARGE, made, r);
        DUE.is("implied", theorem(x, implied), "aA =aAbA |- >cA=aAbA");
        for (int v = 0; v < 10; v++) {
            for (int w = 0; w < 10 && x.terms() < 58; w++) {
                x.join(true, x.variable(v, 1), x.variable(w, 1));
            }
        }
        int all = x.bind(true, q, q);
        DUE.is("59 terms", x.terms(), 59);
        refused("two terms more", x, SUBSTITUTE, implied, pair(p, all), ROOM);
        DUE.is("one term more", x.rule(SUBSTITUTE, x.rule(ASSUME, pq, 0), pair(p, all)),
                x.theorems() - 1);
        DUE.is("60 terms", x.terms(), 60);
        refused("none more", x, SUBSTITUTE, made, pair(q, all), ROOM);
        DUE.is("none needed", theorem(x, x.rule(SUBSTITUTE, made, pair(p, all))),
                "!Az =!AzbA |- =!AzbA");
    }

    private static void orderOfRefusals() {
        ProofKernel x = new ProofKernel();
        int p = x.variable(0, 0);
        int a = x.variable(0, 1);
        int pp = x.join(false, p, p);
        int assumed = x.rule(ASSUME, p, 0);
        int three = x.rule(ASSUME, pp, 0);
        for (int k = 2; k < 40; k++) {
            x.rule(AXIOM, p, 0);
        }
        refused("NONE with 40 theorems", x, AXIOM, 3, 0, NONE);
        refused("KIND with 40 theorems", x, AXIOM, a, 0, KIND);
        refused("BOUND with 40 theorems", x, GENERAL, three, p, BOUND);
        refused("ROOM with 40 theorems", x, GENERAL, three, a, ROOM);
        refused("NONE before KIND, DISCHARGE", x, DISCHARGE, 40, a, NONE);
        refused("NONE before KIND, DETACH", x, DETACH, assumed, 40, NONE);
        refused("KIND before BOUND", x, ABSTRACT, assumed, p, KIND);
    }

    private static void fortyTheorems() {
        ProofKernel x = new ProofKernel();
        int p = x.variable(0, 0);
        for (int k = 0; k < 40; k++) {
            DUE.is("theorem " + k, x.rule(AXIOM, p, 0), k);
        }
        refused("a 41st", x, ASSUME, p, 0, ROOM);
        DUE.is("theorems()", x.theorems(), 40);
        DUE.is("axioms(39)", x.axioms(39), 1L << 39);
        DUE.is("conclusion(39)", x.conclusion(39), p);
        DUE.is("conclusion(40)", x.conclusion(40), NONE);
    }

    private static void sixtyTerms() {
        ProofKernel x = new ProofKernel();
        int p = x.variable(0, 0);
        for (int v = 0; v < 10; v++) {
            for (int w = 0; w < 10 && x.terms() < 59; w++) {
                x.join(true, x.variable(v, 1), x.variable(w, 1));
            }
        }
        int last = x.join(false, p, p);
        DUE.is("the last term", last, 59);
        int assumed = x.rule(ASSUME, last, 0);
        DUE.is("hypotheses", x.hypotheses(assumed), 1L << 59);
        refused("no room for a conclusion", x, DISCHARGE, assumed, p, ROOM);
        int kept = x.rule(DISCHARGE, x.rule(ASSUME, p, 0), p);
        DUE.is("a conclusion that is kept", x.conclusion(kept), last);
    }

    private static void questionsWithoutTheorem() {
        ProofKernel x = new ProofKernel();
        int[] none = {-1, 0, 1, 40, MOST, LEAST};
        for (int k : none) {
            DUE.is("conclusion(" + k + ")", x.conclusion(k), NONE);
            DUE.is("hypotheses(" + k + ")", x.hypotheses(k), -1);
            DUE.is("axioms(" + k + ")", x.axioms(k), -1);
            DUE.is("steps(" + k + ")", x.steps(k), NONE);
        }
        x.rule(ASSUME, x.variable(0, 0), 0);
        DUE.is("conclusion(0)", x.conclusion(0), 0);
        DUE.is("hypotheses(0)", x.hypotheses(0), 1);
        DUE.is("axioms(0)", x.axioms(0), 0);
        DUE.is("steps(0)", x.steps(0), 1);
        DUE.is("conclusion(1)", x.conclusion(1), NONE);
        DUE.is("hypotheses(-1)", x.hypotheses(-1), -1);
    }

    private static void axioms() {
        ProofKernel x = new ProofKernel();
        int p = x.variable(0, 0);
        int q = x.variable(1, 0);
        int assumed = x.rule(ASSUME, p, 0);
        int implied = x.rule(AXIOM, x.join(false, p, q), 0);
        int unused = x.rule(AXIOM, p, 0);
        int axiom = x.rule(AXIOM, p, 0);
        DUE.is("of an assumption", x.axioms(assumed), 0);
        DUE.is("of an axiom", x.axioms(axiom), 1L << axiom);
        DUE.is("of one alike", x.axioms(unused), 1L << unused);
        int first = x.rule(DETACH, implied, assumed);
        int second = x.rule(DETACH, implied, axiom);
        DUE.is("of one", x.axioms(first), 1L << implied);
        DUE.is("of both", x.axioms(second), 1L << implied | 1L << axiom);
        DUE.is("over another", x.axioms(x.rule(DISCHARGE, second, q)),
                1L << implied | 1L << axiom);
        DUE.is("over SUBSTITUTE", x.axioms(x.rule(SUBSTITUTE, first, pair(p, q))), 1L << implied);
        DUE.is("of REFLECT", x.axioms(x.rule(REFLECT, p, 0)), 0);
    }

    /** A theorem p = p with a proof of just so many steps. */
    private static int proofOf(ProofKernel x, int steps) {
        if (steps == 1) {
            return x.rule(REFLECT, x.variable(0, 0), 0);
        }
        if (steps % 2 == 0) {
            return x.rule(TURN, proofOf(x, steps - 1), 0);
        }
        int half = proofOf(x, (steps - 1) / 2);
        return x.rule(CHAIN, half, half);
    }

    private static void steps() {
        int[] wanted = {1, 2, 3, 4, 7, 100, 999998, 999999, 1000000};
        for (int steps : wanted) {
            ProofKernel x = new ProofKernel();
            int proof = proofOf(x, steps);
            DUE.is("steps " + steps, x.steps(proof), steps);
        }
        ProofKernel x = new ProofKernel();
        int million = proofOf(x, 1000000);
        int more = x.rule(TURN, million, 0);
        DUE.is("one more", x.steps(more), 1000000);
        DUE.is("twice more", x.steps(x.rule(CHAIN, more, more)), 1000000);
        ProofKernel y = new ProofKernel();
        DUE.is("1000001", y.steps(proofOf(y, 1000001)), 1000000);
        ProofKernel z = new ProofKernel();
        int proof = z.rule(REFLECT, z.variable(0, 0), 0);
        for (int k = 1; k < 40; k++) {
            proof = z.rule(CHAIN, proof, proof);
            DUE.is("doubled " + k, z.steps(proof), Math.min(1000000L, (2L << k) - 1));
        }
    }
}
