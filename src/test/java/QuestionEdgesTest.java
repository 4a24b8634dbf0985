/** Promises 9 to 18, sentence by sentence: what is there, what is not, and the last that fits. */
public final class QuestionEdgesTest implements Names {
    private static final Due DUE = new Due("QuestionEdgesTest");
    private static final int[] NO_TERM = {-2, -1, 60, 64, MOST, LEAST};
    private static final int[] NO_THEOREM = {-2, -1, 40, 41, MOST, LEAST};

    public static void main(String[] args) {
        howManyTerms();
        howManyTheorems();
        typeOfNone();
        typeOfEachSort();
        sizeOfNone();
        sizeOfThirty();
        freeOfNone();
        freeOfNoVariable();
        freeInEachSort();
        printedOfNone();
        printedBeforeAndBehind();
        printedNamesAndTypes();
        printedConstants();
        printedTwoParts();
        printedBinders();
        printedBinderOfTheLastType();
        printedCountsTheBindersAround();
        printedBehindA();
        conclusionOfNone();
        hypothesesOfNone();
        hypothesesOfAllNumbers();
        axiomsOfNone();
        axiomsOfAllNumbers();
        axiomsDirectlyOrOverOthers();
        stepsOfNone();
        stepsOfEachRule();
        stepsUpToAMillion();
        stepsFarBeyond();
        questionsChangeNothing();
        DUE.end();
    }

    private static Run run(String sentence) {
        return new Run(DUE, sentence);
    }

    // ---- Promises 9 and 10

    private static void howManyTerms() {
        Run run = run("How many terms there are");
        run.terms();
        run.variable(0, 3, NONE);
        run.terms();
        int p = run.variable(0, 0, run.newTerm());
        run.terms();
        run.variable(0, 0, p);
        run.terms();
        run.apply(p, p, KIND);
        run.terms();
        run.rule(AXIOM, p, 0, run.newTheorem());
        run.terms();
        run.rule(REFLECT, p, 0, run.newTheorem());
        run.newTerm();
        run.terms();
        run.rule(REFLECT, p, 0, run.newTheorem());
        run.terms();
        run.fillTerms(59);
        run.terms();
        run.variable(9, 0, run.newTerm());
        run.terms();
        run.variable(8, 0, ROOM);
        run.terms();
        run.end();
    }

    private static void howManyTheorems() {
        Run run = run("How many theorems there are");
        run.theorems();
        run.rule(AXIOM, 0, 0, NONE);
        run.theorems();
        run.fillTheorems(1);
        run.theorems();
        run.rule(TURN, 0, 0, KIND);
        run.theorems();
        run.fillTheorems(2);
        run.theorems();
        run.fillTheorems(39);
        run.theorems();
        run.fillTheorems(40);
        run.theorems();
        run.rule(AXIOM, 0, 0, ROOM);
        run.theorems();
        run.end();
    }

    // ---- Promises 11 and 12

    private static void typeOfNone() {
        Run run = run("The type of term t; NONE when there is none");
        for (int none : NO_TERM) {
            run.typeOf(none, NONE);
        }
        run.typeOf(0, NONE);
        run.variable(0, 1, run.newTerm());
        run.typeOf(0, 1);
        run.typeOf(1, NONE);
        run.fillTerms(59);
        run.typeOf(59, NONE);
        run.constant(0, 1, run.newTerm());
        run.typeOf(59, 1);
        for (int none : NO_TERM) {
            run.typeOf(none, NONE);
        }
        run.end();
    }

    private static void typeOfEachSort() {
        Run run = run("The type of term t");
        run.fillTypes(15);
        int last = run.arrow(1, 14, run.newType());
        int a = run.variable(0, 1, run.newTerm());
        int f = run.variable(0, last, run.newTerm());
        int c = run.constant(0, last, run.newTerm());
        int fa = run.apply(f, a, run.newTerm());
        int equal = run.join(true, f, c, run.newTerm());
        int all = run.bind(true, f, equal, run.newTerm());
        int implied = run.join(false, equal, all, run.newTerm());
        int abstraction = run.bind(false, a, fa, run.newTerm());
        run.typeOf(a, 1);
        run.typeOf(f, 15);
        run.typeOf(c, 15);
        run.typeOf(fa, 14);
        run.typeOf(equal, 0);
        run.typeOf(all, 0);
        run.typeOf(implied, 0);
        run.typeOf(abstraction, 15);
        run.end();
    }

    private static void sizeOfNone() {
        Run run = run("The size of term t; NONE when there is none");
        for (int none : NO_TERM) {
            run.size(none, NONE);
        }
        run.size(0, NONE);
        run.variable(0, 0, run.newTerm());
        run.size(0, 1);
        run.size(1, NONE);
        run.fillTerms(59);
        run.size(59, NONE);
        run.join(true, 0, 0, run.newTerm());
        run.size(59, 3);
        for (int none : NO_TERM) {
            run.size(none, NONE);
        }
        run.end();
    }

    private static void sizeOfThirty() {
        Run run = run("The size of term t: up to 30");
        run.size(run.prop(29), 29);
        run.size(run.prop(30), 30);
        run.bind(true, run.prop(1), run.prop(30), ROOM);
        run.size(run.prop(30), 30);
        run.size(run.prop(30) + 1, NONE);
        run.end();
    }

    // ---- Promise 13

    private static void freeOfNone() {
        Run run = run("free: false when one is not there");
        run.free(0, 0, false);
        run.variable(0, 0, run.newTerm());
        run.free(0, 0, true);
        run.free(0, 1, false);
        run.free(1, 0, false);
        run.free(1, 1, false);
        for (int none : NO_TERM) {
            run.free(0, none, false);
            run.free(none, 0, false);
            run.free(none, none, false);
        }
        run.fillTerms(59);
        run.variable(1, 0, run.newTerm());
        run.free(59, 59, true);
        run.free(59, 60, false);
        run.free(60, 59, false);
        run.end();
    }

    private static void freeOfNoVariable() {
        Run run = run("free: false when v is no variable");
        int p = run.variable(0, 0, run.newTerm());
        int f = run.variable(0, run.arrow(0, 0, run.newType()), run.newTerm());
        int c = run.constant(0, 0, run.newTerm());
        int fp = run.apply(f, p, run.newTerm());
        int fc = run.apply(f, c, run.newTerm());
        int all = run.bind(true, p, p, run.newTerm());
        int abstraction = run.bind(false, p, p, run.newTerm());
        int implied = run.join(false, p, p, run.newTerm());
        int equal = run.join(true, p, p, run.newTerm());
        int[] others = {c, fp, fc, all, abstraction, implied, equal};
        for (int other : others) {
            run.free(other, other, false);
        }
        run.free(c, fc, false);
        run.free(f, fc, true);
        run.free(p, fp, true);
        run.end();
    }

    private static void freeInEachSort() {
        Run run = run("Whether variable v is free in term t");
        int p = run.variable(0, 0, run.newTerm());
        int q = run.variable(1, 0, run.newTerm());
        int a = run.variable(0, 1, run.newTerm());
        int pq = run.join(false, p, q, run.newTerm());
        int qp = run.join(true, q, p, run.newTerm());
        int abstraction = run.bind(false, p, pq, run.newTerm());
        int all = run.bind(true, q, qp, run.newTerm());
        int applied = run.apply(abstraction, p, run.newTerm());
        int[] terms = {p, q, a, pq, qp, abstraction, all, applied};
        boolean[] ofP = {true, false, false, true, true, false, true, true};
        boolean[] ofQ = {false, true, false, true, true, true, false, true};
        for (int i = 0; i < terms.length; i++) {
            run.free(p, terms[i], ofP[i]);
            run.free(q, terms[i], ofQ[i]);
            run.free(a, terms[i], i == 2);
        }
        run.end();
    }

    // ---- Promise 14

    private static void printedOfNone() {
        Run run = run("printed: NONE when there is no term");
        for (int none : NO_TERM) {
            run.printed(none, -1, NONE);
            run.printed(none, 0, NONE);
        }
        run.printed(0, -1, NONE);
        run.printed(0, 0, NONE);
        run.variable(0, 0, run.newTerm());
        run.printed(0, -1, 2);
        run.printed(1, -1, NONE);
        run.printed(1, 0, NONE);
        run.end();
    }

    private static void printedBeforeAndBehind() {
        Run run = run("its length (i = -1) or character i (from 0); NONE when there is none");
        int p = run.variable(0, 0, run.newTerm());
        int c = run.constant(0, 0, run.newTerm());
        int implied = run.join(false, p, c, run.newTerm());
        int all = run.bind(true, p, c, run.newTerm());
        run.text(p, "aA");
        run.text(c, "0");
        run.text(implied, ">aA0");
        run.text(all, "!A0");
        int[] none = {-3, 5, 60, 90, MOST, LEAST};
        for (int i : none) {
            run.printed(p, i, NONE);
            run.printed(c, i, NONE);
            run.printed(implied, i, NONE);
        }
        run.end();
    }

    private static void printedNamesAndTypes() {
        Run run = run("A variable is a letter (a for name 0) and its type as a letter (A for 0)");
        run.fillTypes(16);
        for (int type = 0; type < 16; type++) {
            int name = type % 10;
            run.text(run.variable(name, type, run.newTerm()),
                    "abcdefghij".charAt(name) + "" + "ABCDEFGHIJKLMNOP".charAt(type));
        }
        run.end();
    }

    private static void printedConstants() {
        Run run = run("a constant a digit");
        for (int n = 0; n < 4; n++) {
            run.text(run.constant(n, n % 3, run.newTerm()), "0123".substring(n, n + 1));
        }
        run.constant(4, 0, NONE);
        run.end();
    }

    private static void printedTwoParts() {
        Run run = run("an application @, an implication >, an equation =, and both parts");
        int p = run.variable(0, 0, run.newTerm());
        int f = run.variable(1, run.arrow(0, 0, run.newType()), run.newTerm());
        int fp = run.apply(f, p, run.newTerm());
        run.text(fp, "@bDaA");
        run.text(run.apply(f, fp, run.newTerm()), "@bD@bDaA");
        run.text(run.join(false, p, fp, run.newTerm()), ">aA@bDaA");
        run.text(run.join(false, fp, p, run.newTerm()), ">@bDaAaA");
        run.text(run.join(true, p, fp, run.newTerm()), "=aA@bDaA");
        run.text(run.join(true, fp, p, run.newTerm()), "=@bDaAaA");
        run.end();
    }

    private static void printedBinders() {
        Run run = run("an abstraction / and the type of the variable, then the term; ! the same");
        int p = run.variable(0, 0, run.newTerm());
        int a = run.variable(0, 1, run.newTerm());
        run.text(run.bind(false, a, p, run.newTerm()), "/BaA");
        run.text(run.bind(true, a, p, run.newTerm()), "!BaA");
        run.text(run.bind(false, a, a, run.newTerm()), "/Bz");
        run.text(run.bind(false, p, a, run.newTerm()), "/AaB");
        run.text(run.bind(true, p, p, run.newTerm()), "!Az");
        run.end();
    }

    private static void printedBinderOfTheLastType() {
        Run run = run("the type of the variable as a letter: of the last type");
        run.fillTypes(16);
        int f = run.variable(0, 15, run.newTerm());
        int p = run.variable(0, 0, run.newTerm());
        int same = run.join(true, f, f, run.newTerm());
        run.text(same, "=aPaP");
        run.text(run.bind(true, f, same, run.newTerm()), "!P=zz");
        run.text(run.bind(true, f, p, run.newTerm()), "!PaA");
        run.end();
    }

    private static void printedCountsTheBindersAround() {
        Run run = run("z for the innermost of all binders around it, y for the next one");
        int p = run.variable(0, 0, run.newTerm());
        int q = run.variable(1, 0, run.newTerm());
        int r = run.variable(2, 0, run.newTerm());
        int qr = run.join(false, q, r, run.newTerm());
        int pqr = run.join(false, p, qr, run.newTerm());
        int one = run.bind(true, r, pqr, run.newTerm());
        int two = run.bind(true, q, one, run.newTerm());
        int three = run.bind(true, p, two, run.newTerm());
        run.text(one, "!A>aA>bAz");
        run.text(two, "!A!A>aA>yz");
        run.text(three, "!A!A!A>x>yz");
        int beside = run.join(false, one, r, run.newTerm());
        int around = run.bind(true, r, beside, run.newTerm());
        run.text(around, "!A>!A>aA>bAzz");
        int outer = run.bind(true, p, around, run.newTerm());
        run.text(outer, "!A!A>!A>x>bAzz");
        int pp = run.join(false, p, p, run.newTerm());
        int inner = run.bind(true, q, pp, run.newTerm());
        int both = run.join(true, inner, pp, run.newTerm());
        run.text(run.bind(true, p, both, run.newTerm()), "!A=!A>yy>zz");
        run.end();
    }

    private static void printedBehindA() {
        Run run = run("from z backwards .. behind a the characters with codes below that of a");
        int p = run.variable(0, 0, run.newTerm());
        int q = run.variable(1, 0, run.newTerm());
        int t = p;
        for (int around = 1; around < 29; around++) {
            t = run.bind(true, q, t, run.newTerm());
            if (around >= 24) {
                int whole = run.bind(true, p, t, run.newTerm());
                run.printed(whole, -1, 2 * around + 3);
                run.printed(whole, 2 * around + 1, 'A');
                run.printed(whole, 2 * around + 2, "zyxwvutsrqponmlkjihgfedcba`_^".charAt(around));
                run.printed(whole, 2 * around + 3, NONE);
            }
        }
        run.end();
    }

    // ---- Promises 15 and 16

    private static void conclusionOfNone() {
        Run run = run("conclusion: NONE when there is none");
        run.conclusion(0, NONE);
        int p = run.prop(1);
        run.rule(ASSUME, p, 0, run.newTheorem());
        run.conclusion(0, p);
        run.conclusion(1, NONE);
        run.fillTheorems(39);
        run.conclusion(39, NONE);
        int same = run.newTerm();
        run.rule(REFLECT, p, 0, run.newTheorem());
        run.conclusion(39, same);
        for (int none : NO_THEOREM) {
            run.conclusion(none, NONE);
        }
        run.end();
    }

    private static void hypothesesOfNone() {
        Run run = run("hypotheses: -1 when there is no such theorem");
        run.hypotheses(0, -1);
        int p = run.prop(1);
        run.rule(ASSUME, p, 0, run.newTheorem());
        run.hypotheses(0, 1);
        run.hypotheses(1, -1);
        run.fillTheorems(39);
        run.hypotheses(38, 0);
        run.hypotheses(39, -1);
        run.rule(ASSUME, p, 0, run.newTheorem());
        run.hypotheses(39, 1);
        for (int none : NO_THEOREM) {
            run.hypotheses(none, -1);
        }
        run.end();
    }

    private static void hypothesesOfAllNumbers() {
        int[] numbers = {12, 30, 31, 32, 33, 58, 59};
        Run run = run("bit t for term t");
        run.fillTerms(60);
        for (int t : numbers) {
            run.hypotheses(run.rule(ASSUME, t, 0, run.newTheorem()), 1L << t);
        }
        run.end();
        Run both = run("bit t for term t: several of them, and one taken away");
        int p = both.variable(0, 0, both.newTerm());
        both.fillTerms(58);
        int implied = both.join(false, p, 57, both.newTerm());
        both.join(false, implied, p, both.newTerm());
        int first = both.rule(ASSUME, p, 0, both.newTheorem());
        int second = both.rule(ASSUME, implied, 0, both.newTheorem());
        int third = both.rule(DETACH, second, first, both.newTheorem());
        both.hypotheses(third, 1L << 58 | 1);
        both.conclusion(third, 57);
        int less = both.rule(DISCHARGE, third, p, both.newTheorem());
        both.hypotheses(less, 1L << 58);
        both.conclusion(less, implied);
        int last = both.rule(ASSUME, 59, 0, both.newTheorem());
        int all = both.rule(DETACH, last, less, both.newTheorem());
        both.hypotheses(all, 1L << 59 | 1L << 58);
        both.conclusion(all, p);
        both.rule(DISCHARGE, all, 58, both.newTheorem());
        both.hypotheses(all + 1, 1L << 59);
        both.end();
    }

    // ---- Promise 17

    private static void axiomsOfNone() {
        Run run = run("axioms: -1 when there is no such theorem");
        run.axioms(0, -1);
        run.fillTheorems(1);
        run.axioms(0, 1);
        run.axioms(1, -1);
        run.fillTheorems(39);
        run.axioms(39, -1);
        run.rule(ASSUME, run.prop(1), 0, run.newTheorem());
        run.axioms(39, 0);
        for (int none : NO_THEOREM) {
            run.axioms(none, -1);
        }
        run.end();
    }

    private static void axiomsOfAllNumbers() {
        Run run = run("bit j for theorem j");
        run.fillTheorems(40);
        for (int k = 0; k < 40; k++) {
            run.axioms(k, 1L << k);
        }
        run.end();
        Run both = run("bit j for theorem j: all that one can have");
        int p = both.prop(1);
        int same = both.join(true, p, p, both.newTerm());
        long axioms = 0;
        int last = both.rule(REFLECT, p, 0, both.newTheorem());
        both.axioms(last, 0);
        while (last < 37) {
            int axiom = both.rule(AXIOM, same, 0, both.newTheorem());
            axioms |= 1L << axiom;
            last = both.rule(CHAIN, last, axiom, both.newTheorem());
            both.axioms(last, axioms);
            both.conclusion(last, same);
        }
        both.end();
    }

    private static void axiomsDirectlyOrOverOthers() {
        Run run = run("from which theorem k comes, directly or over others");
        int p = run.prop(1);
        int pp = run.prop(3);
        int same = run.join(true, p, p, run.newTerm());
        int implied = run.rule(AXIOM, pp, 0, run.newTheorem());
        int ofP = run.rule(AXIOM, p, 0, run.newTheorem());
        run.rule(AXIOM, p, 0, run.newTheorem());
        int equation = run.rule(AXIOM, same, 0, run.newTheorem());
        int assumed = run.rule(ASSUME, p, 0, run.newTheorem());
        int direct = run.rule(DETACH, implied, ofP, run.newTheorem());
        run.axioms(direct, 1L << implied | 1L << ofP);
        int once = run.rule(DETACH, implied, assumed, run.newTheorem());
        run.axioms(once, 1L << implied);
        int replaced = run.rule(REPLACE, equation, direct, run.newTheorem());
        run.axioms(replaced, 1L << implied | 1L << ofP | 1L << equation);
        int discharged = run.rule(DISCHARGE, once, p, run.newTheorem());
        run.axioms(discharged, 1L << implied);
        run.axioms(run.rule(GENERAL, ofP, p, run.newTheorem()), 1L << ofP);
        run.axioms(run.rule(SUBSTITUTE, equation, 0, run.newTheorem()), 1L << equation);
        run.axioms(run.rule(TURN, equation, 0, run.newTheorem()), 1L << equation);
        run.axioms(run.rule(CHAIN, equation, equation, run.newTheorem()), 1L << equation);
        run.axioms(assumed, 0);
        run.axioms(run.rule(REFLECT, p, 0, run.newTheorem()), 0);
        run.end();
    }

    // ---- Promise 18

    private static void stepsOfNone() {
        Run run = run("steps: NONE when there is none");
        run.steps(0, NONE);
        run.fillTheorems(1);
        run.steps(0, 1);
        run.steps(1, NONE);
        run.fillTheorems(39);
        run.steps(39, NONE);
        run.fillTheorems(40);
        run.steps(39, 1);
        for (int none : NO_THEOREM) {
            run.steps(none, NONE);
        }
        run.end();
    }

    private static void stepsOfEachRule() {
        Run run = run("1, and those of each theorem that its rule named");
        int p = run.prop(1);
        int f = run.variable(1, run.arrow(0, 0, run.newType()), run.newTerm());
        int identity = run.bind(false, p, p, run.newTerm());
        int redex = run.apply(identity, p, run.newTerm());
        int assumed = run.rule(ASSUME, p, 0, run.newTheorem());
        int axiom = run.rule(AXIOM, p, 0, run.newTheorem());
        int same = run.rule(REFLECT, p, 0, run.newTheorem());
        int functions = run.rule(REFLECT, f, 0, run.newTheorem());
        int beta = run.rule(BETA, redex, 0, run.newTheorem());
        int discharged = run.rule(DISCHARGE, assumed, p, run.newTheorem());
        int general = run.rule(GENERAL, axiom, p, run.newTheorem());
        int detached = run.rule(DETACH, discharged, axiom, run.newTheorem());
        int special = run.rule(SPECIAL, general, p, run.newTheorem());
        int turned = run.rule(TURN, beta, 0, run.newTheorem());
        int chained = run.rule(CHAIN, turned, beta, run.newTheorem());
        int applied = run.rule(APPLY, functions, chained, run.newTheorem());
        int abstracted = run.rule(ABSTRACT, chained, f, run.newTheorem());
        int replaced = run.rule(REPLACE, same, detached, run.newTheorem());
        int substituted = run.rule(SUBSTITUTE, replaced, 0, run.newTheorem());
        int[] theorems = {
            assumed, axiom, same, functions, beta, discharged, general, detached, special, turned,
            chained, applied, abstracted, replaced, substituted
        };
        int[] steps = {1, 1, 1, 1, 1, 2, 2, 4, 3, 2, 4, 6, 5, 6, 7};
        for (int i = 0; i < theorems.length; i++) {
            run.steps(theorems[i], steps[i]);
        }
        run.end();
    }

    /** A proof of just so many steps of p = p: TURN makes one more, CHAIN twice as many and one. */
    private static int proofOf(Run run, int steps) {
        if (steps == 1) {
            return run.rule(REFLECT, run.prop(1), 0, run.newTheorem());
        }
        if (steps % 2 == 0) {
            return run.rule(TURN, proofOf(run, steps - 1), 0, run.newTheorem());
        }
        int half = proofOf(run, (steps - 1) / 2);
        return run.rule(CHAIN, half, half, run.newTheorem());
    }

    private static void stepsUpToAMillion() {
        int[] wanted = {999998, 999999, 1000000};
        for (int steps : wanted) {
            Run run = run("but 1000000 if it would be more: " + steps);
            int proof = proofOf(run, steps);
            run.steps(proof, steps);
            int turned = run.rule(TURN, proof, 0, run.newTheorem());
            run.steps(turned, Math.min(steps + 1, 1000000));
            int twice = run.rule(TURN, turned, 0, run.newTheorem());
            run.steps(twice, Math.min(steps + 2, 1000000));
            run.steps(run.rule(CHAIN, turned, twice, run.newTheorem()), 1000000);
            run.steps(proof, steps);
            run.end();
        }
        Run run = run("but 1000000 if it would be more: 1000001 at once");
        run.steps(proofOf(run, 1000001), 1000000);
        run.end();
    }

    private static void stepsFarBeyond() {
        Run run = run("but 1000000 if it would be more: 2 to the 40th");
        int proof = run.rule(REFLECT, run.prop(1), 0, run.newTheorem());
        long steps = 1;
        while (proof < 39) {
            proof = run.rule(CHAIN, proof, proof, run.newTheorem());
            steps = 2 * steps + 1;
            run.steps(proof, (int) Math.min(steps, 1000000));
        }
        run.end();
    }

    // ---- all of them

    private static void questionsChangeNothing() {
        ProofKernel asked = new ProofKernel();
        ProofKernel spared = new ProofKernel();
        for (ProofKernel x : new ProofKernel[] {asked, spared}) {
            x.rule(AXIOM, x.constant(0, 0), 0);
        }
        for (int number = -2; number < 12; number++) {
            asked.typeOf(number);
            asked.size(number);
            asked.free(number, number);
            asked.free(0, number);
            asked.printed(number, -1);
            asked.printed(number, number);
            asked.conclusion(number);
            asked.hypotheses(number);
            asked.axioms(number);
            asked.steps(number);
            asked.terms();
            asked.theorems();
        }
        DUE.is("state behind questions", Due.state(asked), Due.state(spared));
        DUE.is("next type", asked.arrow(0, 0), spared.arrow(0, 0));
        DUE.is("next term", asked.variable(0, 3), spared.variable(0, 3));
        DUE.is("next theorem", asked.rule(REFLECT, 0, 0), spared.rule(REFLECT, 0, 0));
    }
}
