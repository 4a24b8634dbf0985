/** 'What it is' and 'Terms' of the document: its limits, sentence by sentence, from both sides. */
public final class TermsSectionTest implements Names {
    private static final Due DUE = new Due("TermsSectionTest");

    public static void main(String[] args) {
        lastCallMakes();
        lastCallIsRefused();
        lastCallAsksOfAFullObject();
        typesAtFirst();
        sixteenTypes();
        arrowIsOneMoreType();
        propIsTypeZero();
        oneNameAndDifferentTypes();
        applicationTakesFromAnswersTo();
        abstractionIsOfVariableToTerm();
        quantificationOfAProp();
        implicationOfProps();
        equationOfOneType();
        boundIsNotFree();
        freeBesideABinder();
        sameButForNames();
        sameNeedsTypes();
        sameNeedsBinding();
        sizes();
        applicationOfThirty();
        abstractionOfThirty();
        quantificationOfThirty();
        implicationOfThirty();
        equationOfThirty();
        farTooLarge();
        numbersInOrder();
        sixtyVariables();
        sixtiethConstant();
        sixtiethApplication();
        sixtiethAbstraction();
        sixtiethQuantification();
        sixtiethImplication();
        sixtiethEquation();
        tooLargeAndSixty();
        typeThatComes();
        sixteenthTypeComes();
        noTypeForATermWithoutRoom();
        noTypeForATermTooLarge();
        refusedCallsChangeNothing();
        fortyTheorems();
        DUE.end();
    }

    private static Run run(String sentence) {
        return new Run(DUE, sentence);
    }

    // ---- What it is

    private static void lastCallMakes() {
        Run run = run("used for at most 512 calls: the last one makes something");
        while (run.calls() < 511) {
            run.terms();
        }
        run.arrow(2, 2, run.newType());
        run.end();
    }

    private static void lastCallIsRefused() {
        Run run = run("used for at most 512 calls: the last ones are refused");
        run.variable(0, 0, run.newTerm());
        while (run.calls() < 512) {
            run.variable(10, 0, NONE);
        }
        run.end();
    }

    private static void lastCallAsksOfAFullObject() {
        Run run = run("used for at most 512 calls: a full object");
        run.fillTypes(16);
        run.fillTheorems(40);
        run.fillTerms(60);
        while (run.calls() < 508) {
            run.steps(39, 1);
        }
        run.rule(AXIOM, 0, 0, ROOM);
        run.variable(1, 0, ROOM);
        run.arrow(0, 0, ROOM);
        run.axioms(39, 1L << 39);
        run.end();
    }

    // ---- Terms: types

    private static void typesAtFirst() {
        Run run = run("0 PROP, 1 and 2 are there at first");
        run.variable(0, -1, NONE);
        run.variable(0, 0, run.newTerm());
        run.variable(0, 1, run.newTerm());
        run.variable(0, 2, run.newTerm());
        run.variable(0, 3, NONE);
        run.arrow(0, 3, NONE);
        run.terms();
        run.arrow(0, 0, run.newType());
        run.variable(0, 3, run.newTerm());
        run.end();
    }

    private static void sixteenTypes() {
        Run run = run("TYPES have numbers 0, 1, .., at most 16");
        run.fillTypes(15);
        run.variable(0, 15, NONE);
        run.arrow(0, 15, NONE);
        int last = run.arrow(1, 1, run.newType());
        run.arrow(0, 0, ROOM);
        run.arrow(1, 1, last);
        run.arrow(0, 0, ROOM);
        int v = run.variable(0, last, run.newTerm());
        run.typeOf(v, 15);
        run.variable(0, 16, NONE);
        run.arrow(16, 0, NONE);
        run.terms();
        run.end();
    }

    private static void arrowIsOneMoreType() {
        Run run = run("FROM -> TO, of two types, is one more");
        int there = run.arrow(0, 1, run.newType());
        int back = run.arrow(1, 0, run.newType());
        int self = run.arrow(1, 1, run.newType());
        int ofArrows = run.arrow(there, back, run.newType());
        run.arrow(there, self, run.newType());
        run.arrow(ofArrows, ofArrows, run.newType());
        run.arrow(0, 1, there);
        run.arrow(1, 0, back);
        run.arrow(there, back, ofArrows);
        run.arrow(back, there, run.newType());
        run.end();
    }

    private static void propIsTypeZero() {
        Run run = run("0 PROP");
        run.fillTypes(4);
        for (int type = 0; type < 4; type++) {
            run.variable(0, type, run.newTerm());
        }
        run.rule(ASSUME, 1, 0, KIND);
        run.rule(ASSUME, 2, 0, KIND);
        run.rule(ASSUME, 3, 0, KIND);
        run.theorems();
        run.rule(ASSUME, 0, 0, run.newTheorem());
        run.end();
    }

    // ---- Terms: what a term is

    private static void oneNameAndDifferentTypes() {
        Run run = run("two with one name and different types are different");
        int p = run.variable(4, 0, run.newTerm());
        int a = run.variable(4, 1, run.newTerm());
        run.variable(5, 1, run.newTerm());
        run.variable(4, 0, p);
        run.variable(4, 1, a);
        run.text(p, "eA");
        run.text(a, "eB");
        run.free(a, p, false);
        int all = run.bind(true, a, p, run.newTerm());
        run.text(all, "!BeA");
        run.free(p, all, true);
        run.end();
    }

    private static void applicationTakesFromAnswersTo() {
        Run run = run("f is of a type FROM -> TO and a of type FROM");
        int unary = run.arrow(1, 2, run.newType());
        int higher = run.arrow(unary, 0, run.newType());
        int p = run.variable(0, 0, run.newTerm());
        int a = run.variable(0, 1, run.newTerm());
        int b = run.variable(0, 2, run.newTerm());
        int f = run.variable(0, unary, run.newTerm());
        int g = run.variable(0, higher, run.newTerm());
        run.apply(f, b, KIND);
        run.apply(f, p, KIND);
        run.apply(f, f, KIND);
        run.apply(f, g, KIND);
        run.apply(g, a, KIND);
        run.apply(g, b, KIND);
        run.apply(a, f, KIND);
        run.apply(p, p, KIND);
        run.apply(a, a, KIND);
        run.apply(b, a, KIND);
        run.terms();
        int fa = run.apply(f, a, run.newTerm());
        int gf = run.apply(g, f, run.newTerm());
        run.typeOf(fa, 2);
        run.typeOf(gf, 0);
        run.apply(fa, a, KIND);
        run.end();
    }

    private static void abstractionIsOfVariableToTerm() {
        Run run = run("of the type of the variable -> the type of the term");
        int a = run.variable(0, 1, run.newTerm());
        int b = run.variable(0, 2, run.newTerm());
        int ab = run.bind(false, a, b, run.newTerm());
        int ba = run.bind(false, b, a, run.newTerm());
        int there = run.newType();
        int back = run.newType();
        run.typeOf(ab, there);
        run.typeOf(ba, back);
        run.arrow(1, 2, there);
        run.arrow(2, 1, back);
        int applied = run.apply(ab, a, run.newTerm());
        run.typeOf(applied, 2);
        run.apply(ab, b, KIND);
        run.apply(ba, a, KIND);
        run.terms();
        run.end();
    }

    private static void quantificationOfAProp() {
        Run run = run("a QUANTIFICATION of a variable in a term that is PROP, of type PROP");
        int p = run.variable(0, 0, run.newTerm());
        int a = run.variable(0, 1, run.newTerm());
        run.bind(true, p, a, KIND);
        run.bind(true, a, a, KIND);
        run.terms();
        int all = run.bind(true, a, p, run.newTerm());
        run.typeOf(all, 0);
        run.typeOf(run.bind(true, p, all, run.newTerm()), 0);
        run.arrow(1, 0, run.newType());
        run.end();
    }

    private static void implicationOfProps() {
        Run run = run("an IMPLICATION of two terms that are PROP, of type PROP");
        int p = run.variable(0, 0, run.newTerm());
        int a = run.variable(0, 1, run.newTerm());
        run.join(false, p, a, KIND);
        run.join(false, a, p, KIND);
        run.join(false, a, a, KIND);
        run.terms();
        run.typeOf(run.join(false, p, p, run.newTerm()), 0);
        run.end();
    }

    private static void equationOfOneType() {
        Run run = run("an EQUATION of two terms of one type, of type PROP");
        int unary = run.arrow(1, 2, run.newType());
        int p = run.variable(0, 0, run.newTerm());
        int a = run.variable(0, 1, run.newTerm());
        int b = run.variable(0, 2, run.newTerm());
        int f = run.variable(0, unary, run.newTerm());
        run.join(true, p, a, KIND);
        run.join(true, a, p, KIND);
        run.join(true, a, b, KIND);
        run.join(true, f, a, KIND);
        run.join(true, b, f, KIND);
        run.terms();
        run.typeOf(run.join(true, p, p, run.newTerm()), 0);
        run.typeOf(run.join(true, a, a, run.newTerm()), 0);
        run.typeOf(run.join(true, f, f, run.newTerm()), 0);
        run.end();
    }

    // ---- Terms: bound variables

    private static void boundIsNotFree() {
        Run run = run("wherever it is FREE in the term, it is not free in the whole");
        int p = run.variable(0, 0, run.newTerm());
        int q = run.variable(1, 0, run.newTerm());
        int pq = run.join(false, p, q, run.newTerm());
        int pqp = run.join(false, pq, p, run.newTerm());
        int all = run.bind(true, p, pqp, run.newTerm());
        int abstraction = run.bind(false, q, pqp, run.newTerm());
        run.free(p, pqp, true);
        run.free(p, all, false);
        run.free(q, all, true);
        run.free(q, abstraction, false);
        run.free(p, abstraction, true);
        run.text(all, "!A>>zbAz");
        run.text(abstraction, "/A>>aAzaA");
        run.end();
    }

    private static void freeBesideABinder() {
        Run run = run("wherever it is FREE: bound in one part, free in another");
        int p = run.variable(0, 0, run.newTerm());
        int all = run.bind(true, p, p, run.newTerm());
        int beside = run.join(false, all, p, run.newTerm());
        int before = run.join(false, p, all, run.newTerm());
        int both = run.bind(true, p, beside, run.newTerm());
        run.free(p, all, false);
        run.free(p, beside, true);
        run.free(p, before, true);
        run.free(p, both, false);
        run.text(both, "!A>!Azz");
        int again = run.bind(true, p, all, run.newTerm());
        run.text(again, "!A!Az");
        run.free(p, again, false);
        run.end();
    }

    private static void sameButForNames() {
        Run run = run("the SAME if they differ in the names of bound variables alone");
        int p = run.variable(0, 0, run.newTerm());
        int q = run.variable(1, 0, run.newTerm());
        int pq = run.join(false, p, q, run.newTerm());
        int qp = run.join(false, q, p, run.newTerm());
        int allP = run.bind(true, p, p, run.newTerm());
        run.bind(true, q, q, allP);
        int abstractionP = run.bind(false, p, p, run.newTerm());
        run.bind(false, q, q, abstractionP);
        int inner = run.bind(true, q, pq, run.newTerm());
        int outer = run.bind(true, p, inner, run.newTerm());
        int innerTurned = run.bind(true, p, qp, run.newTerm());
        run.bind(true, q, innerTurned, outer);
        run.text(outer, "!A!A>yz");
        run.terms();
        run.end();
    }

    private static void sameNeedsTypes() {
        Run run = run("their types must agree");
        int p = run.variable(0, 0, run.newTerm());
        int a = run.variable(0, 1, run.newTerm());
        int b = run.variable(1, 1, run.newTerm());
        int c = run.variable(0, 2, run.newTerm());
        int ofA = run.bind(true, a, p, run.newTerm());
        int ofC = run.bind(true, c, p, run.newTerm());
        run.bind(true, b, p, ofA);
        run.text(ofA, "!BaA");
        run.text(ofC, "!CaA");
        int abstractionA = run.bind(false, a, a, run.newTerm());
        int abstractionC = run.bind(false, c, c, run.newTerm());
        run.bind(false, b, b, abstractionA);
        run.text(abstractionC, "/Cz");
        run.typeOf(abstractionA, run.newType());
        run.typeOf(abstractionC, run.newType());
        run.end();
    }

    private static void sameNeedsBinding() {
        Run run = run("the SAME: not if free variables differ, or what binds, or what is bound");
        int p = run.variable(0, 0, run.newTerm());
        int q = run.variable(1, 0, run.newTerm());
        run.bind(true, p, q, run.newTerm());
        run.bind(true, q, p, run.newTerm());
        run.bind(true, p, p, run.newTerm());
        run.bind(false, p, p, run.newTerm());
        run.join(false, p, q, run.newTerm());
        int pq = run.join(true, p, q, run.newTerm());
        run.join(true, q, p, run.newTerm());
        int all = run.bind(true, q, pq, run.newTerm());
        int allTurned = run.bind(true, p, pq, run.newTerm());
        run.text(run.bind(true, p, all, run.newTerm()), "!A!A=yz");
        run.text(run.bind(true, q, allTurned, run.newTerm()), "!A!A=zy");
        run.terms();
        run.end();
    }

    // ---- Terms: sizes

    private static void sizes() {
        Run run = run("The SIZE of a term");
        int unary = run.arrow(0, 0, run.newType());
        int p = run.variable(0, 0, run.newTerm());
        int f = run.variable(0, unary, run.newTerm());
        int c = run.constant(0, 0, run.newTerm());
        int fp = run.apply(f, p, run.newTerm());
        int all = run.bind(true, p, fp, run.newTerm());
        int abstraction = run.bind(false, p, fp, run.newTerm());
        int empty = run.bind(true, p, c, run.newTerm());
        int implied = run.join(false, all, c, run.newTerm());
        int equal = run.join(true, abstraction, f, run.newTerm());
        run.size(p, 1);
        run.size(f, 1);
        run.size(c, 1);
        run.size(fp, 3);
        run.size(all, 4);
        run.size(abstraction, 4);
        run.size(empty, 2);
        run.size(implied, 6);
        run.size(equal, 6);
        int larger = empty;
        for (int size = 3; size <= 30; size++) {
            larger = run.bind(true, p, larger, run.newTerm());
            run.size(larger, size);
        }
        run.end();
    }

    private static void applicationOfThirty() {
        Run run = run("a term of more than 30 is TOO LARGE: application");
        int f = run.variable(1, run.arrow(0, 0, run.newType()), run.newTerm());
        int fits = run.prop(28);
        int large = run.prop(29);
        run.apply(f, large, ROOM);
        run.terms();
        int made = run.apply(f, fits, run.newTerm());
        run.size(made, 30);
        run.apply(f, made, ROOM);
        run.apply(f, fits, made);
        run.terms();
        run.end();
    }

    private static void abstractionOfThirty() {
        Run run = run("a term of more than 30 is TOO LARGE: abstraction");
        int a = run.variable(0, 1, run.newTerm());
        int fits = run.prop(29);
        int large = run.prop(30);
        run.bind(false, a, large, ROOM);
        run.terms();
        int made = run.bind(false, a, fits, run.newTerm());
        run.size(made, 30);
        run.bind(false, a, large, ROOM);
        run.typeOf(made, run.newType());
        run.bind(false, a, fits, made);
        run.end();
    }

    private static void quantificationOfThirty() {
        Run run = run("a term of more than 30 is TOO LARGE: quantification");
        int a = run.variable(0, 1, run.newTerm());
        int fits = run.prop(29);
        int large = run.prop(30);
        run.bind(true, a, large, ROOM);
        run.terms();
        int made = run.bind(true, a, fits, run.newTerm());
        run.size(made, 30);
        run.bind(true, a, made, ROOM);
        run.bind(true, a, fits, made);
        run.end();
    }

    private static void implicationOfThirty() {
        Run run = run("a term of more than 30 is TOO LARGE: implication");
        int fourteen = run.prop(14);
        int fifteen = run.prop(15);
        run.join(false, fifteen, fifteen, ROOM);
        run.terms();
        int made = run.join(false, fourteen, fifteen, run.newTerm());
        run.size(made, 30);
        run.join(false, run.prop(1), made, ROOM);
        run.size(run.join(false, fifteen, fourteen, run.newTerm()), 30);
        run.end();
    }

    private static void equationOfThirty() {
        Run run = run("a term of more than 30 is TOO LARGE: equation");
        int fourteen = run.prop(14);
        int fifteen = run.prop(15);
        run.join(true, fifteen, fifteen, ROOM);
        run.terms();
        run.size(run.join(true, fifteen, fourteen, run.newTerm()), 30);
        run.size(run.join(true, fourteen, fourteen, run.newTerm()), 29);
        run.join(true, fifteen, fifteen, ROOM);
        run.end();
    }

    private static void farTooLarge() {
        Run run = run("a term of more than 30 is TOO LARGE: one of 61");
        int thirty = run.prop(30);
        run.join(false, thirty, thirty, ROOM);
        run.join(true, thirty, thirty, ROOM);
        run.terms();
        run.size(thirty, 30);
        run.variable(9, 2, run.newTerm());
        run.end();
    }

    // ---- Terms: how many are kept

    private static void numbersInOrder() {
        Run run = run("numbers 0, 1, .. in the order in which they came; of the same one is kept");
        int unary = run.arrow(1, 1, run.newType());
        run.typeOf(0, NONE);
        run.terms();
        int a = run.variable(3, 1, 0);
        int f = run.variable(2, unary, 1);
        int fa = run.apply(f, a, 2);
        int c = run.constant(1, 0, 3);
        int abstraction = run.bind(false, a, fa, 4);
        int all = run.bind(true, a, c, 5);
        int equal = run.join(true, fa, a, 6);
        int implied = run.join(false, c, c, 7);
        run.variable(3, 1, a);
        run.variable(2, unary, f);
        run.apply(f, a, fa);
        run.constant(1, 0, c);
        run.bind(false, a, fa, abstraction);
        run.bind(true, a, c, all);
        run.join(true, fa, a, equal);
        run.join(false, c, c, implied);
        run.typeOf(7, 0);
        run.typeOf(8, NONE);
        run.end();
    }

    private static void sixtyVariables() {
        Run run = run("Terms are kept, at most 60: variables");
        run.fillTypes(7);
        for (int type = 0; type < 6; type++) {
            for (int name = 0; name < 10; name++) {
                run.variable(name, type, run.newTerm());
            }
        }
        run.variable(0, 6, ROOM);
        run.terms();
        run.typeOf(59, 5);
        run.typeOf(60, NONE);
        run.variable(9, 5, 59);
        run.variable(0, 0, 0);
        run.variable(9, 6, ROOM);
        run.end();
    }

    private static void sixtiethConstant() {
        Run run = run("Terms are kept, at most 60: constant");
        run.fillTerms(59);
        run.constant(3, 1, 59);
        run.constant(2, 1, ROOM);
        run.constant(2, 2, ROOM);
        run.constant(3, 1, 59);
        run.typeOf(59, 1);
        run.newTerm();
        run.terms();
        run.end();
    }

    private static void sixtiethApplication() {
        Run run = run("Terms are kept, at most 60: application");
        int f = run.variable(0, run.arrow(1, 1, run.newType()), run.newTerm());
        int a = run.variable(0, 1, run.newTerm());
        run.fillTerms(59);
        int last = run.apply(f, a, run.newTerm());
        run.apply(f, last, ROOM);
        run.apply(f, a, 59);
        run.size(last, 3);
        run.terms();
        run.end();
    }

    private static void sixtiethAbstraction() {
        Run run = run("Terms are kept, at most 60: abstraction");
        int a = run.variable(0, 1, run.newTerm());
        int b = run.variable(1, 1, run.newTerm());
        run.fillTerms(59);
        int last = run.bind(false, a, a, run.newTerm());
        run.bind(false, a, b, ROOM);
        run.bind(false, b, b, last);
        run.bind(false, a, last, ROOM);
        run.typeOf(last, run.newType());
        run.arrow(1, 3, run.newType());
        run.terms();
        run.end();
    }

    private static void sixtiethQuantification() {
        Run run = run("Terms are kept, at most 60: quantification");
        int p = run.variable(0, 0, run.newTerm());
        int q = run.variable(1, 0, run.newTerm());
        run.fillTerms(59);
        int last = run.bind(true, p, p, run.newTerm());
        run.bind(true, p, q, ROOM);
        run.bind(true, q, q, last);
        run.bind(true, q, last, ROOM);
        run.terms();
        run.end();
    }

    private static void sixtiethImplication() {
        Run run = run("Terms are kept, at most 60: implication");
        int p = run.variable(0, 0, run.newTerm());
        int q = run.variable(1, 0, run.newTerm());
        run.fillTerms(59);
        run.join(false, p, q, run.newTerm());
        run.join(false, q, p, ROOM);
        run.join(true, p, q, ROOM);
        run.join(false, p, q, 59);
        run.terms();
        run.end();
    }

    private static void sixtiethEquation() {
        Run run = run("Terms are kept, at most 60: equation");
        int a = run.variable(0, 1, run.newTerm());
        int b = run.variable(1, 1, run.newTerm());
        run.fillTerms(59);
        run.join(true, a, b, run.newTerm());
        run.join(true, b, a, ROOM);
        run.join(true, a, b, 59);
        run.terms();
        run.end();
    }

    private static void tooLargeAndSixty() {
        Run run = run("ROOM if there are 60 or it is too large: both");
        int thirty = run.prop(30);
        run.fillTerms(60);
        run.join(false, thirty, thirty, ROOM);
        run.bind(true, run.prop(1), thirty, ROOM);
        run.size(thirty, 30);
        run.terms();
        run.end();
    }

    // ---- Terms: the type of an abstraction

    private static void typeThatComes() {
        Run run = run("An abstraction needs its type; if that is not there yet, it comes then");
        int a = run.variable(0, 1, run.newTerm());
        int c = run.variable(0, 2, run.newTerm());
        int there = run.arrow(1, 2, run.newType());
        int first = run.bind(false, a, c, run.newTerm());
        run.typeOf(first, there);
        run.variable(0, 4, NONE);
        int second = run.bind(false, c, a, run.newTerm());
        run.typeOf(second, run.newType());
        run.variable(0, 4, run.newTerm());
        run.variable(0, 5, NONE);
        int third = run.bind(false, a, first, run.newTerm());
        run.typeOf(third, run.newType());
        run.arrow(1, there, 5);
        run.arrow(2, 1, 4);
        run.arrow(0, 0, run.newType());
        run.end();
    }

    private static void sixteenthTypeComes() {
        Run run = run("ROOM if there are 16 types");
        int a = run.variable(0, 1, run.newTerm());
        int b = run.variable(1, 1, run.newTerm());
        int c = run.variable(0, 2, run.newTerm());
        run.fillTypes(15);
        int last = run.bind(false, a, a, run.newTerm());
        run.typeOf(last, run.newType());
        run.bind(false, a, c, ROOM);
        run.bind(false, a, last, ROOM);
        run.bind(false, c, a, ROOM);
        run.terms();
        int there = run.bind(false, a, b, run.newTerm());
        run.typeOf(there, 15);
        run.bind(false, b, b, last);
        run.typeOf(run.bind(false, c, c, run.newTerm()), 3);
        int p = run.variable(0, 0, run.newTerm());
        run.typeOf(run.bind(true, a, p, run.newTerm()), 0);
        run.bind(false, a, p, ROOM);
        run.end();
    }

    private static void noTypeForATermWithoutRoom() {
        Run run = run("A call that is refused changes nothing: no type without room for the term");
        int a = run.variable(0, 1, run.newTerm());
        run.fillTerms(60);
        run.bind(false, a, a, ROOM);
        run.variable(0, 3, NONE);
        run.arrow(2, 1, run.newType());
        run.variable(0, 3, ROOM);
        run.arrow(1, 1, run.newType());
        run.end();
    }

    private static void noTypeForATermTooLarge() {
        Run run = run("A call that is refused changes nothing: no type for a term too large");
        int a = run.variable(0, 1, run.newTerm());
        int large = run.prop(30);
        run.bind(false, a, large, ROOM);
        run.variable(0, 3, NONE);
        run.bind(false, run.prop(1), large, ROOM);
        run.variable(0, 3, NONE);
        run.arrow(2, 1, run.newType());
        run.arrow(1, 0, run.newType());
        run.arrow(0, 0, run.newType());
        run.end();
    }

    // ---- Terms: what is refused, and theorems

    private static void refusedCallsChangeNothing() {
        Run run = run("A call that is refused changes nothing");
        run.arrow(0, 3, NONE);
        run.variable(0, 3, NONE);
        run.constant(0, 3, NONE);
        run.apply(0, 0, NONE);
        run.bind(false, 0, 0, NONE);
        run.join(true, 0, 0, NONE);
        run.rule(AXIOM, 0, 0, NONE);
        run.terms();
        run.theorems();
        int p = run.variable(0, 0, run.newTerm());
        int a = run.variable(0, 1, run.newTerm());
        run.constant(0, 0, run.newTerm());
        run.constant(0, 1, KIND);
        run.apply(p, p, KIND);
        run.bind(true, a, a, KIND);
        run.join(true, p, a, KIND);
        run.rule(AXIOM, a, 0, KIND);
        int assumed = run.rule(ASSUME, p, 0, run.newTheorem());
        run.rule(GENERAL, assumed, p, BOUND);
        run.rule(DISCHARGE, assumed, a, KIND);
        run.rule(14, p, p, NONE);
        run.terms();
        run.theorems();
        run.constant(1, 1, run.newTerm());
        run.rule(AXIOM, p, 0, run.newTheorem());
        run.arrow(1, 1, run.newType());
        run.end();
    }

    private static void fortyTheorems() {
        Run run = run("They have numbers 0, 1, .., at most 40");
        run.conclusion(0, NONE);
        run.theorems();
        run.fillTheorems(39);
        run.conclusion(38, run.prop(1));
        run.conclusion(39, NONE);
        run.rule(ASSUME, run.prop(1), 0, run.newTheorem());
        run.conclusion(39, run.prop(1));
        run.rule(ASSUME, run.prop(1), 0, ROOM);
        run.rule(AXIOM, run.prop(1), 0, ROOM);
        run.rule(DISCHARGE, 39, run.prop(1), ROOM);
        run.theorems();
        run.terms();
        run.conclusion(40, NONE);
        run.hypotheses(39, 1);
        run.axioms(38, 1L << 38);
        run.variable(7, 1, run.newTerm());
        run.end();
    }
}
