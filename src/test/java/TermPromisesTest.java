/** Promises 1 to 7, 9 and 11 to 14: types and terms. */
public final class TermPromisesTest implements Names {
    private static final Due DUE = new Due("TermPromisesTest");

    public static void main(String[] args) {
        newObject();
        arrow();
        arrowWithoutRoom();
        variable();
        constant();
        constantWithoutRoom();
        apply();
        applyTooLarge();
        bind();
        bindSameNames();
        bindMakesItsType();
        bindRefusedMakesNoType();
        join();
        joinTooLarge();
        sixtyTerms();
        free();
        printed();
        printedDeep();
        questionsWithoutTerm();
        DUE.end();
    }

    /** Fills the terms up to a number: variables of the first three types, then quantifications. */
    private static void fill(ProofKernel x, int number) {
        for (int name = 0; name < 10; name++) {
            for (int type = 0; type < 3 && x.terms() < number; type++) {
                x.variable(name, type);
            }
        }
        for (int v = 0; v < 60 && x.terms() < number; v++) {
            for (int t = 0; t < 60 && x.terms() < number; t++) {
                if (x.size(v) == 1 && x.size(t) == 1) {
                    x.bind(true, v, t);
                }
            }
        }
        DUE.is("terms() of a filled object", x.terms(), number);
    }

    /** Fills the types up to a number. */
    private static void fillTypes(ProofKernel x, int number) {
        for (int type = 3; type < number; type++) {
            x.arrow(2, type - 1);
        }
    }

    private static void newObject() {
        ProofKernel x = new ProofKernel();
        DUE.is("terms()", x.terms(), 0);
        DUE.is("theorems()", x.theorems(), 0);
        DUE.is("variable of type 3", x.variable(0, 3), NONE);
        DUE.is("no constant was declared", x.constant(3, 2), 0);
        DUE.is("type 0", new ProofKernel().variable(0, 0), 0);
        DUE.is("type 1", new ProofKernel().variable(0, 1), 0);
        DUE.is("type 2", new ProofKernel().variable(0, 2), 0);
        DUE.is("first arrow", new ProofKernel().arrow(2, 0), 3);
    }

    private static void arrow() {
        ProofKernel x = new ProofKernel();
        DUE.is("arrow(0, 1)", x.arrow(0, 1), 3);
        DUE.is("arrow(1, 0)", x.arrow(1, 0), 4);
        DUE.is("arrow(0, 1) again", x.arrow(0, 1), 3);
        DUE.is("arrow(3, 4)", x.arrow(3, 4), 5);
        DUE.is("arrow(3, 3)", x.arrow(3, 3), 6);
        DUE.is("arrow(7, 0)", x.arrow(7, 0), NONE);
        DUE.is("arrow(0, 7)", x.arrow(0, 7), NONE);
        DUE.is("arrow(-1, 0)", x.arrow(-1, 0), NONE);
        DUE.is("arrow(0, -1)", x.arrow(0, -1), NONE);
        DUE.is("arrow(-1, -1)", x.arrow(-1, -1), NONE);
        DUE.is("arrow(MOST, LEAST)", x.arrow(MOST, LEAST), NONE);
        DUE.is("the next arrow", x.arrow(6, 6), 7);
    }

    private static void arrowWithoutRoom() {
        ProofKernel x = new ProofKernel();
        for (int type = 3; type < 16; type++) {
            DUE.is("arrow(0, " + (type - 1) + ")", x.arrow(0, type - 1), type);
        }
        DUE.is("a 17th type", x.arrow(1, 1), ROOM);
        DUE.is("arrow with 16 types that is there", x.arrow(0, 14), 15);
        DUE.is("arrow(16, 0)", x.arrow(16, 0), NONE);
        DUE.is("variable of the last type", x.variable(0, 15), 0);
        DUE.is("variable(0, 16)", x.variable(0, 16), NONE);
    }

    private static void variable() {
        ProofKernel x = new ProofKernel();
        DUE.is("variable(0, 0)", x.variable(0, 0), 0);
        DUE.is("variable(0, 1)", x.variable(0, 1), 1);
        DUE.is("variable(9, 0)", x.variable(9, 0), 2);
        DUE.is("variable(0, 0) again", x.variable(0, 0), 0);
        DUE.is("variable(-1, 0)", x.variable(-1, 0), NONE);
        DUE.is("variable(10, 0)", x.variable(10, 0), NONE);
        DUE.is("variable(0, -1)", x.variable(0, -1), NONE);
        DUE.is("variable(0, 3)", x.variable(0, 3), NONE);
        DUE.is("variable(MOST, 0)", x.variable(MOST, 0), NONE);
        DUE.is("variable(0, LEAST)", x.variable(0, LEAST), NONE);
        DUE.is("terms()", x.terms(), 3);
        DUE.is("typeOf(1)", x.typeOf(1), 1);
        fill(x, 60);
        DUE.is("variable without room", x.variable(9, x.arrow(1, 1)), ROOM);
        DUE.is("variable that is kept", x.variable(9, 0), 2);
    }

    private static void constant() {
        ProofKernel x = new ProofKernel();
        DUE.is("constant(0, 1)", x.constant(0, 1), 0);
        DUE.is("constant(0, 1) again", x.constant(0, 1), 0);
        DUE.is("constant(0, 0)", x.constant(0, 0), KIND);
        DUE.is("constant(0, 3)", x.constant(0, 3), NONE);
        DUE.is("constant(3, 0)", x.constant(3, 0), 1);
        DUE.is("constant(3, 1)", x.constant(3, 1), KIND);
        DUE.is("constant(4, 0)", x.constant(4, 0), NONE);
        DUE.is("constant(-1, 0)", x.constant(-1, 0), NONE);
        DUE.is("constant(1, -1)", x.constant(1, -1), NONE);
        DUE.is("constant(MOST, MOST)", x.constant(MOST, MOST), NONE);
        DUE.is("a refused constant is not declared", x.constant(1, 2), 2);
        DUE.is("variable of a constant's number", x.variable(0, 1), 3);
        DUE.is("typeOf", x.typeOf(2), 2);
    }

    private static void constantWithoutRoom() {
        ProofKernel x = new ProofKernel();
        DUE.is("constant(2, 2)", x.constant(2, 2), 0);
        fill(x, 60);
        DUE.is("constant without room", x.constant(1, 1), ROOM);
        DUE.is("constant without room is not declared", x.constant(1, 2), ROOM);
        DUE.is("constant that is kept", x.constant(2, 2), 0);
        DUE.is("constant of another type", x.constant(2, 1), KIND);
        DUE.is("terms()", x.terms(), 60);
    }

    private static void apply() {
        ProofKernel x = new ProofKernel();
        int unary = x.arrow(1, 2);
        int binary = x.arrow(1, unary);
        int f = x.variable(0, binary);
        int a = x.constant(0, 1);
        int fa = x.apply(f, a);
        int faa = x.apply(fa, a);
        DUE.is("apply(f, a)", fa, 2);
        DUE.is("apply(f a, a)", faa, 3);
        DUE.is("again", x.apply(f, a), fa);
        DUE.is("type of f a", x.typeOf(fa), unary);
        DUE.is("type of f a a", x.typeOf(faa), 2);
        DUE.is("size of f a a", x.size(faa), 5);
        DUE.is("f a a printed", Due.text(x, faa), "@@aE00");
        DUE.is("a to a", x.apply(a, a), KIND);
        DUE.is("f to f", x.apply(f, f), KIND);
        DUE.is("f a a to a", x.apply(faa, a), KIND);
        DUE.is("no f", x.apply(-1, a), NONE);
        DUE.is("no a", x.apply(f, 4), NONE);
        DUE.is("no a, and f no function", x.apply(a, 4), NONE);
        DUE.is("MOST to LEAST", x.apply(MOST, LEAST), NONE);
        fill(x, 60);
        DUE.is("without room, kept", x.apply(fa, a), faa);
        DUE.is("without room", x.apply(f, x.variable(0, 1)), ROOM);
        DUE.is("without room, wrong types", x.apply(a, a), KIND);
    }

    private static void applyTooLarge() {
        ProofKernel x = new ProofKernel();
        int f = x.variable(0, x.arrow(1, 1));
        int g = x.bind(false, f, f);
        int t = x.variable(1, 1);
        for (int i = 0; i < 14; i++) {
            t = x.apply(f, t);
        }
        DUE.is("size of f(..f(b))", x.size(t), 29);
        int terms = x.terms();
        DUE.is("31 tokens", x.apply(f, t), ROOM);
        DUE.is("terms after a refusal", x.terms(), terms);
        int h = x.bind(false, x.variable(1, 1), t);
        DUE.is("size 30", x.size(h), 30);
        DUE.is("g to size 30", x.apply(g, h), ROOM);
        DUE.is("f of type 1 -> 1 to size 30", x.apply(f, h), KIND);
    }

    private static void bind() {
        ProofKernel x = new ProofKernel();
        int p = x.variable(0, 0);
        int a = x.variable(1, 1);
        int c = x.constant(0, 1);
        DUE.is("for all a, p", Due.text(x, x.bind(true, a, p)), "!BaA");
        DUE.is("for all p, p", Due.text(x, x.bind(true, p, p)), "!Az");
        DUE.is("its type", x.typeOf(x.bind(true, p, p)), 0);
        DUE.is("its size", x.size(x.bind(true, p, p)), 2);
        DUE.is("abstraction of p in a", Due.text(x, x.bind(false, p, a)), "/AbB");
        DUE.is("its type", x.typeOf(x.bind(false, p, a)), x.arrow(0, 1));
        DUE.is("all and not PROP", x.bind(true, p, a), KIND);
        DUE.is("constant as variable", x.bind(false, c, p), KIND);
        DUE.is("quantification as variable", x.bind(true, x.bind(true, p, p), p), KIND);
        DUE.is("no variable there", x.bind(true, 6, p), NONE);
        DUE.is("no term there", x.bind(false, p, -1), NONE);
        DUE.is("no term there, constant as variable", x.bind(false, c, 60), NONE);
        DUE.is("MOST, LEAST", x.bind(false, MOST, LEAST), NONE);
        DUE.is("terms()", x.terms(), 6);
    }

    private static void bindSameNames() {
        ProofKernel x = new ProofKernel();
        int p = x.variable(0, 0);
        int q = x.variable(1, 0);
        int a = x.variable(0, 1);
        DUE.is("names of bound variables", x.bind(true, q, q), x.bind(true, p, p));
        int pq = x.join(false, p, q);
        int qp = x.join(false, q, p);
        int first = x.bind(true, p, x.bind(true, q, pq));
        DUE.is("two of them", x.bind(true, q, x.bind(true, p, qp)), first);
        DUE.is("printed", Due.text(x, first), "!A!A>yz");
        DUE.is("other order", Due.text(x, x.bind(true, q, x.bind(true, p, pq))), "!A!A>zy");
        DUE.is("types of bound variables", Due.text(x, x.bind(true, a, q)), "!BbA");
        DUE.is("another type", Due.text(x, x.bind(true, p, q)), "!AbA");
        DUE.is("bound twice", Due.text(x, x.bind(true, p, x.bind(true, p, pq))), "!A!A>zbA");
        DUE.is("a name of another type stays", Due.text(x, x.bind(true, a, p)), "!BaA");
        DUE.is("bound on both sides", Due.text(x,
                x.bind(true, p, x.join(false, x.bind(true, q, pq), p))), "!A>!A>yzz");
    }

    private static void bindMakesItsType() {
        ProofKernel x = new ProofKernel();
        int a = x.variable(0, 1);
        int b = x.variable(1, 2);
        int f = x.bind(false, a, b);
        DUE.is("type that comes", x.typeOf(f), 3);
        DUE.is("arrow that is there now", x.arrow(1, 2), 3);
        DUE.is("next type that comes", x.typeOf(x.bind(false, a, f)), 4);
        DUE.is("type of before", x.typeOf(x.bind(false, a, x.constant(0, 2))), 3);
        DUE.is("quantification makes no type", x.bind(true, a, x.variable(0, 0)), 7);
        DUE.is("next arrow", x.arrow(2, 2), 5);
    }

    private static void bindRefusedMakesNoType() {
        ProofKernel x = new ProofKernel();
        int a = x.variable(0, 1);
        int b = x.variable(1, 1);
        fillTypes(x, 15);
        DUE.is("16th type", x.typeOf(x.bind(false, a, a)), 15);
        DUE.is("17th type", x.bind(false, a, x.variable(0, 2)), ROOM);
        DUE.is("type that is there", x.typeOf(x.bind(false, a, b)), 15);
        DUE.is("terms()", x.terms(), 5);

        ProofKernel full = new ProofKernel();
        int c = full.variable(0, 1);
        fill(full, 60);
        DUE.is("no room for the term", full.bind(false, c, c), ROOM);
        DUE.is("so no type came", full.variable(0, 3), NONE);
        DUE.is("next arrow", full.arrow(2, 2), 3);

        ProofKernel large = new ProofKernel();
        int p = large.variable(0, 0);
        int t = p;
        for (int i = 0; i < 29; i++) {
            t = large.bind(true, p, t);
        }
        DUE.is("size 30", large.size(t), 30);
        DUE.is("too large", large.bind(false, p, t), ROOM);
        DUE.is("all too large", large.bind(true, p, t), ROOM);
        DUE.is("so no type came", large.arrow(1, 1), 3);
        DUE.is("terms()", large.terms(), 30);
    }

    private static void join() {
        ProofKernel x = new ProofKernel();
        int p = x.variable(0, 0);
        int q = x.variable(1, 0);
        int a = x.variable(0, 1);
        int b = x.variable(0, 2);
        DUE.is("p implies q", Due.text(x, x.join(false, p, q)), ">aAbA");
        DUE.is("p = q", Due.text(x, x.join(true, p, q)), "=aAbA");
        DUE.is("a = a", Due.text(x, x.join(true, a, a)), "=aBaB");
        DUE.is("type of a = a", x.typeOf(x.join(true, a, a)), 0);
        DUE.is("size of a = a", x.size(x.join(true, a, a)), 3);
        DUE.is("q = p is another", Due.text(x, x.join(true, q, p)), "=bAaA");
        DUE.is("again", x.join(false, p, q), 4);
        DUE.is("a implies a", x.join(false, a, a), KIND);
        DUE.is("p implies a", x.join(false, p, a), KIND);
        DUE.is("a implies p", x.join(false, a, p), KIND);
        DUE.is("a = b", x.join(true, a, b), KIND);
        DUE.is("p = a", x.join(true, p, a), KIND);
        DUE.is("no first", x.join(false, -1, p), NONE);
        DUE.is("no second", x.join(true, a, 8), NONE);
        DUE.is("MOST, LEAST", x.join(true, MOST, LEAST), NONE);
        DUE.is("terms()", x.terms(), 8);
        fill(x, 60);
        DUE.is("without room, kept", x.join(false, p, q), 4);
        DUE.is("without room", x.join(false, q, q), ROOM);
        DUE.is("without room, wrong types", x.join(false, a, a), KIND);
    }

    private static void joinTooLarge() {
        ProofKernel x = new ProofKernel();
        int p = x.variable(0, 0);
        int two = x.bind(true, p, p);
        int three = x.join(false, p, p);
        int seven = x.join(false, three, three);
        int fourteen = x.bind(true, p, x.join(false, seven, x.join(false, p, three)));
        DUE.is("size 14", x.size(fourteen), 14);
        int fifteen = x.join(false, seven, seven);
        DUE.is("size 15", x.size(fifteen), 15);
        DUE.is("size 30", x.size(x.join(true, fourteen, fifteen)), 30);
        int terms = x.terms();
        DUE.is("31 = 1 + 15 + 15", x.join(true, fifteen, fifteen), ROOM);
        DUE.is("terms after a refusal", x.terms(), terms);
        DUE.is("1 + 2 + 15", x.size(x.join(false, two, fifteen)), 18);
    }

    private static void sixtyTerms() {
        ProofKernel x = new ProofKernel();
        fill(x, 59);
        int p = x.variable(0, 0);
        DUE.is("60th term", x.join(true, p, p), 59);
        DUE.is("61st term", x.join(false, p, p), ROOM);
        DUE.is("60th term again", x.join(true, p, p), 59);
        DUE.is("terms()", x.terms(), 60);
        DUE.is("typeOf(59)", x.typeOf(59), 0);
        DUE.is("typeOf(60)", x.typeOf(60), NONE);
    }

    private static void free() {
        ProofKernel x = new ProofKernel();
        int p = x.variable(0, 0);
        int a = x.variable(0, 1);
        int q = x.variable(1, 0);
        int c = x.constant(0, 0);
        int pq = x.join(false, p, q);
        int all = x.bind(true, p, pq);
        int both = x.join(false, all, p);
        DUE.is("p in p", x.free(p, p), true);
        DUE.is("q in p", x.free(q, p), false);
        DUE.is("the name with another type", x.free(a, p), false);
        DUE.is("q in p implies q", x.free(q, pq), true);
        DUE.is("p where it is bound", x.free(p, all), false);
        DUE.is("q beside", x.free(q, all), true);
        DUE.is("p bound and free", x.free(p, both), true);
        DUE.is("a constant is no variable", x.free(c, c), false);
        DUE.is("an implication is no variable", x.free(pq, pq), false);
        DUE.is("no variable", x.free(-1, p), false);
        DUE.is("no term", x.free(p, 7), false);
        DUE.is("MOST in LEAST", x.free(MOST, LEAST), false);
        DUE.is("p in -1", x.free(p, -1), false);
    }

    private static void printed() {
        ProofKernel x = new ProofKernel();
        int unary = x.arrow(1, 1);
        int f = x.variable(9, unary);
        int a = x.variable(2, 1);
        int c = x.constant(3, 1);
        int fa = x.apply(f, a);
        int fc = x.apply(f, c);
        int equation = x.join(true, fa, fc);
        int quantified = x.bind(true, f, x.bind(true, a, equation));
        int abstraction = x.bind(false, f, fa);
        DUE.is("variable", Due.text(x, f), "jD");
        DUE.is("constant", Due.text(x, c), "3");
        DUE.is("application", Due.text(x, fa), "@jDcB");
        DUE.is("equation", Due.text(x, equation), "=@jDcB@jD3");
        DUE.is("quantification", Due.text(x, quantified), "!D!B=@yz@y3");
        DUE.is("abstraction", Due.text(x, abstraction), "/D@zcB");
        DUE.is("length", x.printed(quantified, -1), 11);
        DUE.is("last character", x.printed(quantified, 10), '3');
        DUE.is("behind the last", x.printed(quantified, 11), NONE);
        DUE.is("behind a type letter", x.printed(f, 2), NONE);
        DUE.is("behind a constant", x.printed(c, 1), NONE);
        DUE.is("character -2", x.printed(f, -2), NONE);
        DUE.is("character MOST", x.printed(f, MOST), NONE);
        DUE.is("character LEAST", x.printed(f, LEAST), NONE);
        DUE.is("no term", x.printed(x.terms(), -1), NONE);
        DUE.is("term -1", x.printed(-1, 0), NONE);
    }

    private static void printedDeep() {
        ProofKernel x = new ProofKernel();
        int p = x.variable(0, 0);
        int q = x.variable(1, 0);
        int t = p;
        for (int i = 0; i < 28; i++) {
            t = x.bind(true, q, t);
        }
        t = x.bind(true, p, t);
        DUE.is("size", x.size(t), 30);
        DUE.is("length", x.printed(t, -1), 59);
        DUE.is("the outermost of 29 binders", x.printed(t, 58), 'z' - 28);
        ProofKernel y = new ProofKernel();
        int r = y.variable(0, 0);
        int s = y.variable(1, 0);
        int u = r;
        for (int i = 0; i < 25; i++) {
            u = y.bind(true, s, u);
        }
        u = y.bind(true, r, u);
        DUE.is("the outermost of 26 binders", y.printed(u, 52), 'a');
        DUE.is("one more", y.printed(y.bind(true, s, u), 54), 'a');
    }

    private static void questionsWithoutTerm() {
        ProofKernel x = new ProofKernel();
        DUE.is("typeOf(0)", x.typeOf(0), NONE);
        DUE.is("size(0)", x.size(0), NONE);
        DUE.is("printed(0, -1)", x.printed(0, -1), NONE);
        DUE.is("free(0, 0)", x.free(0, 0), false);
        x.variable(0, 2);
        DUE.is("typeOf(0)", x.typeOf(0), 2);
        DUE.is("typeOf(1)", x.typeOf(1), NONE);
        DUE.is("typeOf(-1)", x.typeOf(-1), NONE);
        DUE.is("typeOf(MOST)", x.typeOf(MOST), NONE);
        DUE.is("size(0)", x.size(0), 1);
        DUE.is("size(1)", x.size(1), NONE);
        DUE.is("size(-1)", x.size(-1), NONE);
        DUE.is("size(LEAST)", x.size(LEAST), NONE);
    }
}
