/** Promise 8 and the rules: NONE, KIND and BOUND, and what is just not refused. */
public final class RuleEdgesTest implements Names {
    private static final Due DUE = new Due("RuleEdgesTest");
    // What is no term of the nine and no theorem of the five that are made ready.
    private static final int[] NO_TERM = {-1, 9, 10, 59, 60, MOST, LEAST};
    private static final int[] NO_THEOREM = {-1, 5, 6, 39, 40, MOST, LEAST};

    public static void main(String[] args) {
        noSuchRule();
        numberAlsoIfThereIsOneAlike();
        axiomOfNone();
        assumeOfNone();
        dischargeOfNone();
        detachOfNone();
        generalOfNone();
        specialOfNone();
        reflectOfNone();
        turnOfNone();
        chainOfNone();
        applyOfNone();
        abstractOfNone();
        betaOfNone();
        replaceOfNone();
        substituteOfNone();
        substituteOfTheLastTerm();
        theoremsAreNotTerms();
        axiomAndAssumeOfProp();
        dischargeTakesAway();
        dischargeOfProp();
        detachOfItsAntecedent();
        hypothesesOfBoth();
        generalOfAVariable();
        generalFreeInAHypothesis();
        generalFreeInALateHypothesis();
        specialOfAQuantification();
        specialOfTheType();
        reflectOfAnyType();
        turnOfAnEquation();
        chainOfOneMiddle();
        chainOfEquationsAlone();
        chainOfBoundNames();
        applyOfAFunction();
        applyOfEquationsAlone();
        abstractOfAnEquation();
        abstractFreeInAHypothesis();
        betaOfAnAbstraction();
        replaceOfAProp();
        substituteOfAVariable();
        substituteOfItsType();
        substituteInHypothesesAndConclusion();
        substituteMakesHypothesesOne();
        conclusionsThatAreKept();
        conclusionsThatComeFirst();
        namesAreNotCaughtBySpecial();
        namesAreNotCaughtByBeta();
        namesAreNotCaughtBySubstitute();
        boundStaysBound();
        DUE.end();
    }

    private static Run run(String sentence) {
        return new Run(DUE, sentence);
    }

    private static int pair(int v, int s) {
        return 64 * v + s;
    }

    /** Terms 0 to 8, and theorems 0 to 4 of them, for the rules to be used on. */
    private static Run ready(String sentence) {
        Run run = run(sentence);
        run.arrow(0, 0, run.newType());
        run.variable(0, 0, run.newTerm());
        run.variable(1, 3, run.newTerm());
        run.bind(false, 0, 0, run.newTerm());
        run.apply(2, 0, run.newTerm());
        run.join(false, 0, 0, run.newTerm());
        run.join(true, 0, 0, run.newTerm());
        run.join(true, 1, 1, run.newTerm());
        run.bind(true, 0, 0, run.newTerm());
        run.variable(2, 1, run.newTerm());
        run.rule(AXIOM, 0, 0, run.newTheorem());
        run.rule(AXIOM, 4, 0, run.newTheorem());
        run.rule(AXIOM, 5, 0, run.newTheorem());
        run.rule(AXIOM, 6, 0, run.newTheorem());
        run.rule(AXIOM, 7, 0, run.newTheorem());
        return run;
    }

    private static void noneAndThenMade(Run run, int rule, int[] noX, int x, int[] noY, int y) {
        for (int none : noX) {
            run.rule(rule, none, y, NONE);
        }
        for (int none : noY) {
            run.rule(rule, x, none, NONE);
        }
        run.rule(rule, noX[0], noY[0], NONE);
        run.terms();
        run.theorems();
        run.rule(rule, x, y, run.newTheorem());
        run.end();
    }

    /** For the rules that name one thing: y is not looked at. */
    private static void noneOfX(Run run, int rule, int[] noX, int x) {
        for (int none : noX) {
            run.rule(rule, none, 0, NONE);
        }
        run.theorems();
        int[] any = {-1, 0, 60, MOST, LEAST};
        for (int y : any) {
            run.rule(rule, x, y, run.newTheorem());
        }
        run.end();
    }

    // ---- NONE

    private static void noSuchRule() {
        Run run = ready("NONE when rule is not 0 .. 13");
        int[] none = {-1, 14, 15, MOST, LEAST};
        for (int rule : none) {
            run.rule(rule, 0, 0, NONE);
        }
        run.terms();
        run.theorems();
        run.rule(0, 0, 0, run.newTheorem());
        run.rule(13, 0, pair(0, 0), run.newTheorem());
        run.end();
    }

    private static void numberAlsoIfThereIsOneAlike() {
        Run run = run("its number, also if there is one alike");
        int p = run.prop(1);
        run.rule(AXIOM, p, 0, 0);
        run.rule(AXIOM, p, 0, 1);
        run.rule(ASSUME, p, 0, 2);
        run.rule(ASSUME, p, 0, 3);
        run.conclusion(0, p);
        run.conclusion(1, p);
        run.axioms(0, 1);
        run.axioms(1, 2);
        run.hypotheses(3, 1);
        run.conclusion(4, NONE);
        run.end();
    }

    private static void axiomOfNone() {
        noneOfX(ready("AXIOM: y is not looked at; NONE when the term is not there"),
                AXIOM, NO_TERM, 0);
    }

    private static void assumeOfNone() {
        noneOfX(ready("ASSUME: y is not looked at; NONE when the term is not there"),
                ASSUME, NO_TERM, 7);
    }

    private static void dischargeOfNone() {
        noneAndThenMade(ready("DISCHARGE: NONE when theorem or term is not there"),
                DISCHARGE, NO_THEOREM, 4, NO_TERM, 7);
    }

    private static void detachOfNone() {
        noneAndThenMade(ready("DETACH: NONE when a theorem is not there"),
                DETACH, NO_THEOREM, 1, NO_THEOREM, 0);
    }

    private static void generalOfNone() {
        noneAndThenMade(ready("GENERAL: NONE when theorem or term is not there"),
                GENERAL, NO_THEOREM, 4, NO_TERM, 8);
    }

    private static void specialOfNone() {
        noneAndThenMade(ready("SPECIAL: NONE when theorem or term is not there"),
                SPECIAL, NO_THEOREM, 4, NO_TERM, 7);
    }

    private static void reflectOfNone() {
        noneOfX(ready("REFLECT: y is not looked at; NONE when the term is not there"),
                REFLECT, NO_TERM, 1);
    }

    private static void turnOfNone() {
        noneOfX(ready("TURN: y is not looked at; NONE when the theorem is not there"),
                TURN, NO_THEOREM, 3);
    }

    private static void chainOfNone() {
        noneAndThenMade(ready("CHAIN: NONE when a theorem is not there"),
                CHAIN, NO_THEOREM, 3, NO_THEOREM, 3);
    }

    private static void applyOfNone() {
        noneAndThenMade(ready("APPLY: NONE when a theorem is not there"),
                APPLY, NO_THEOREM, 3, NO_THEOREM, 2);
    }

    private static void abstractOfNone() {
        noneAndThenMade(ready("ABSTRACT: NONE when theorem or term is not there"),
                ABSTRACT, NO_THEOREM, 3, NO_TERM, 8);
    }

    private static void betaOfNone() {
        noneOfX(ready("BETA: y is not looked at; NONE when the term is not there"),
                BETA, NO_TERM, 3);
    }

    private static void replaceOfNone() {
        noneAndThenMade(ready("REPLACE: NONE when a theorem is not there"),
                REPLACE, NO_THEOREM, 2, NO_THEOREM, 0);
    }

    private static void substituteOfNone() {
        int[] noPair = {
            -1, -63, -64, -65, pair(0, 9), pair(0, 63), pair(9, 0), pair(8, 9), pair(9, 9),
            pair(59, 0), pair(60, 0), pair(63, 63), pair(64, 0), 1 << 26, MOST, LEAST
        };
        noneAndThenMade(ready("SUBSTITUTE: NONE when theorem or term is not there"),
                SUBSTITUTE, NO_THEOREM, 4, noPair, pair(8, 8));
    }

    private static void substituteOfTheLastTerm() {
        Run run = run("y is 64 * the variable + the term s: up to the last of 60 terms");
        int p = run.prop(1);
        run.fillTerms(59);
        int last = run.variable(1, 0, run.newTerm());
        int theorem = run.rule(ASSUME, last, 0, run.newTheorem());
        run.rule(SUBSTITUTE, theorem, pair(59, 60), NONE);
        run.rule(SUBSTITUTE, theorem, pair(59, 63), NONE);
        run.rule(SUBSTITUTE, theorem, pair(60, 0), NONE);
        run.rule(SUBSTITUTE, theorem, pair(60, 59), NONE);
        run.rule(SUBSTITUTE, theorem, pair(63, 63), NONE);
        run.rule(SUBSTITUTE, theorem, pair(58, 59), KIND);
        run.theorems();
        int same = run.rule(SUBSTITUTE, theorem, pair(59, 59), run.newTheorem());
        run.conclusion(same, last);
        run.hypotheses(same, 1L << 59);
        int made = run.rule(SUBSTITUTE, theorem, pair(59, p), run.newTheorem());
        run.conclusion(made, p);
        run.hypotheses(made, 1L << p);
        int back = run.rule(SUBSTITUTE, made, pair(p, 59), run.newTheorem());
        run.conclusion(back, last);
        run.hypotheses(back, 1L << 59);
        run.end();
    }

    private static void theoremsAreNotTerms() {
        Run run = run("theorems, then terms: x, then y");
        int p = run.prop(1);
        run.fillTheorems(3);
        run.rule(AXIOM, 1, 0, NONE);
        run.rule(DISCHARGE, 2, 1, NONE);
        run.rule(REFLECT, 2, 0, NONE);
        run.rule(GENERAL, p, 2, NONE);
        run.rule(SUBSTITUTE, 2, pair(0, 1), NONE);
        run.theorems();
        int made = run.newTerm();
        run.conclusion(run.rule(DISCHARGE, 2, p, run.newTheorem()), made);
        run.rule(SUBSTITUTE, 2, pair(0, 1), run.newTheorem());
        run.end();
    }

    // ---- AXIOM, ASSUME, DISCHARGE, DETACH

    private static void axiomAndAssumeOfProp() {
        Run run = run("AXIOM p: |- p. ASSUME p: {p} |- p. (p: PROP)");
        int p = run.variable(0, 0, run.newTerm());
        int a = run.variable(0, 1, run.newTerm());
        int f = run.bind(false, a, p, run.newTerm());
        run.newType();
        int fa = run.apply(f, a, run.newTerm());
        run.rule(AXIOM, a, 0, KIND);
        run.rule(AXIOM, f, 0, KIND);
        run.rule(ASSUME, a, 0, KIND);
        run.rule(ASSUME, f, 0, KIND);
        run.theorems();
        int axiom = run.rule(AXIOM, fa, 0, run.newTheorem());
        int assumed = run.rule(ASSUME, fa, 0, run.newTheorem());
        run.conclusion(axiom, fa);
        run.hypotheses(axiom, 0);
        run.conclusion(assumed, fa);
        run.hypotheses(assumed, 1L << fa);
        run.terms();
        run.end();
    }

    private static void dischargeTakesAway() {
        Run run = run("DISCHARGE theorem, p: h without p |- p implies c");
        int p = run.variable(0, 0, run.newTerm());
        int q = run.variable(1, 0, run.newTerm());
        int assumed = run.rule(ASSUME, p, 0, run.newTheorem());
        int other = run.newTerm();
        int kept = run.rule(DISCHARGE, assumed, q, run.newTheorem());
        run.conclusion(kept, other);
        run.hypotheses(kept, 1);
        run.text(other, ">bAaA");
        int made = run.newTerm();
        int both = run.rule(DISCHARGE, kept, p, run.newTheorem());
        run.conclusion(both, made);
        run.hypotheses(both, 0);
        run.text(made, ">aA>bAaA");
        int again = run.newTerm();
        int empty = run.rule(DISCHARGE, both, p, run.newTheorem());
        run.conclusion(empty, again);
        run.hypotheses(empty, 0);
        run.hypotheses(assumed, 1);
        run.end();
    }

    private static void dischargeOfProp() {
        Run run = ready("DISCHARGE: KIND when p is not PROP");
        run.rule(DISCHARGE, 0, 1, KIND);
        run.rule(DISCHARGE, 0, 2, KIND);
        run.rule(DISCHARGE, 0, 8, KIND);
        run.theorems();
        run.terms();
        run.conclusion(run.rule(DISCHARGE, 0, 0, run.newTheorem()), 4);
        run.conclusion(run.rule(DISCHARGE, 0, 3, run.newTheorem()), run.newTerm());
        run.end();
    }

    private static void detachOfItsAntecedent() {
        Run run = run("DETACH theorem p implies c, theorem p: |- c");
        int p = run.variable(0, 0, run.newTerm());
        int q = run.variable(1, 0, run.newTerm());
        int pq = run.join(false, p, q, run.newTerm());
        int equal = run.join(true, p, q, run.newTerm());
        int all = run.bind(true, p, p, run.newTerm());
        int allQ = run.join(false, all, q, run.newTerm());
        int implied = run.rule(AXIOM, pq, 0, run.newTheorem());
        int equation = run.rule(AXIOM, equal, 0, run.newTheorem());
        int ofP = run.rule(AXIOM, p, 0, run.newTheorem());
        int ofQ = run.rule(AXIOM, q, 0, run.newTheorem());
        int ofAll = run.rule(AXIOM, all, 0, run.newTheorem());
        int allImplied = run.rule(AXIOM, allQ, 0, run.newTheorem());
        run.rule(DETACH, implied, ofQ, KIND);
        run.rule(DETACH, implied, implied, KIND);
        run.rule(DETACH, equation, ofP, KIND);
        run.rule(DETACH, ofP, implied, KIND);
        run.rule(DETACH, ofP, ofP, KIND);
        run.rule(DETACH, allImplied, ofP, KIND);
        run.rule(DETACH, implied, ofAll, KIND);
        run.theorems();
        run.conclusion(run.rule(DETACH, implied, ofP, run.newTheorem()), q);
        run.conclusion(run.rule(DETACH, allImplied, ofAll, run.newTheorem()), q);
        run.terms();
        run.end();
    }

    private static void hypothesesOfBoth() {
        Run run = run("where two theorems are named, the hypotheses of both together are taken");
        int p = run.variable(0, 0, run.newTerm());
        int q = run.variable(1, 0, run.newTerm());
        int pq = run.join(false, p, q, run.newTerm());
        int equal = run.join(true, p, q, run.newTerm());
        int implied = run.rule(ASSUME, pq, 0, run.newTheorem());
        int equation = run.rule(ASSUME, equal, 0, run.newTheorem());
        int ofP = run.rule(ASSUME, p, 0, run.newTheorem());
        int free = run.rule(AXIOM, p, 0, run.newTheorem());
        int detached = run.rule(DETACH, implied, ofP, run.newTheorem());
        run.hypotheses(detached, 1L << pq | 1L << p);
        run.hypotheses(run.rule(DETACH, implied, free, run.newTheorem()), 1L << pq);
        run.hypotheses(run.rule(REPLACE, equation, ofP, run.newTheorem()), 1L << equal | 1L << p);
        int inner = run.rule(DISCHARGE, detached, p, run.newTheorem());
        run.conclusion(inner, pq);
        run.hypotheses(inner, 1L << pq);
        int both = run.rule(DETACH, inner, ofP, run.newTheorem());
        run.hypotheses(both, 1L << pq | 1L << p);
        int turned = run.rule(TURN, equation, 0, run.newTheorem());
        run.conclusion(turned, run.newTerm());
        int chained = run.rule(CHAIN, equation, turned, run.newTheorem());
        run.conclusion(chained, run.newTerm());
        run.hypotheses(chained, 1L << equal);
        run.end();
    }

    // ---- GENERAL, SPECIAL

    private static void generalOfAVariable() {
        Run run = ready("GENERAL: KIND when v is no variable");
        for (int t = 2; t < 8; t++) {
            run.rule(GENERAL, 1, t, KIND);
        }
        run.theorems();
        run.terms();
        int made = run.newTerm();
        run.conclusion(run.rule(GENERAL, 1, 0, run.newTheorem()), made);
        run.text(made, "!A>zz");
        int over = run.newTerm();
        run.conclusion(run.rule(GENERAL, 1, 1, run.newTheorem()), over);
        run.text(over, "!D>aAaA");
        run.end();
    }

    private static void generalFreeInAHypothesis() {
        Run run = run("GENERAL: BOUND when v is free in a hypothesis");
        int p = run.variable(0, 0, run.newTerm());
        int q = run.variable(1, 0, run.newTerm());
        int a = run.variable(0, 1, run.newTerm());
        int all = run.bind(true, p, p, run.newTerm());
        int assumed = run.rule(ASSUME, p, 0, run.newTheorem());
        int axiom = run.rule(AXIOM, p, 0, run.newTheorem());
        int closed = run.rule(ASSUME, all, 0, run.newTheorem());
        run.rule(GENERAL, assumed, p, BOUND);
        run.rule(GENERAL, assumed, all, KIND);
        run.theorems();
        run.terms();
        run.conclusion(run.rule(GENERAL, axiom, p, run.newTheorem()), all);
        int ofQ = run.newTerm();
        int made = run.rule(GENERAL, assumed, q, run.newTheorem());
        run.conclusion(made, ofQ);
        run.hypotheses(made, 1);
        int ofA = run.newTerm();
        run.conclusion(run.rule(GENERAL, assumed, a, run.newTheorem()), ofA);
        run.text(ofQ, "!AaA");
        run.text(ofA, "!BaA");
        int twice = run.newTerm();
        run.conclusion(run.rule(GENERAL, closed, p, run.newTheorem()), twice);
        run.text(twice, "!A!Az");
        int implied = run.rule(DISCHARGE, assumed, p, run.newTheorem());
        run.conclusion(implied, run.newTerm());
        run.conclusion(run.rule(GENERAL, implied, p, run.newTheorem()), run.newTerm());
        run.end();
    }

    private static void generalFreeInALateHypothesis() {
        Run run = run("GENERAL: BOUND when v is free in a hypothesis, the first or the last of 60");
        int p = run.variable(0, 0, run.newTerm());
        int q = run.variable(1, 0, run.newTerm());
        run.fillTerms(59);
        int last = run.join(false, q, p, run.newTerm());
        int assumed = run.rule(ASSUME, last, 0, run.newTheorem());
        int ofQ = run.rule(ASSUME, q, 0, run.newTheorem());
        int made = run.rule(DETACH, assumed, ofQ, run.newTheorem());
        run.hypotheses(made, 1L << 59 | 1L << q);
        run.rule(GENERAL, made, p, BOUND);
        run.rule(GENERAL, made, q, BOUND);
        run.rule(GENERAL, made, 2, ROOM);
        run.theorems();
        run.end();
    }

    private static void specialOfAQuantification() {
        Run run = ready("SPECIAL: KIND when it is no theorem for all v, c");
        for (int k = 0; k < 4; k++) {
            run.rule(SPECIAL, k, 0, KIND);
        }
        run.theorems();
        run.conclusion(run.rule(SPECIAL, 4, 0, run.newTheorem()), 0);
        run.conclusion(run.rule(SPECIAL, 4, 7, run.newTheorem()), 7);
        run.terms();
        run.end();
    }

    private static void specialOfTheType() {
        Run run = run("SPECIAL: term s of v's type");
        int p = run.variable(0, 0, run.newTerm());
        int a = run.variable(0, 1, run.newTerm());
        int c = run.variable(0, 2, run.newTerm());
        int all = run.bind(true, a, p, run.newTerm());
        int axiom = run.rule(AXIOM, all, 0, run.newTheorem());
        run.rule(SPECIAL, axiom, p, KIND);
        run.rule(SPECIAL, axiom, c, KIND);
        run.rule(SPECIAL, axiom, all, KIND);
        run.theorems();
        int made = run.rule(SPECIAL, axiom, a, run.newTheorem());
        run.conclusion(made, p);
        run.rule(SPECIAL, made, a, KIND);
        run.terms();
        run.end();
    }

    // ---- REFLECT, TURN, CHAIN, APPLY

    private static void reflectOfAnyType() {
        Run run = ready("REFLECT t: |- t = t");
        run.conclusion(run.rule(REFLECT, 0, 0, run.newTheorem()), 5);
        run.conclusion(run.rule(REFLECT, 1, 0, run.newTheorem()), 6);
        int made = run.newTerm();
        int reflected = run.rule(REFLECT, 8, 0, run.newTheorem());
        run.conclusion(reflected, made);
        run.hypotheses(reflected, 0);
        run.text(made, "=cBcB");
        run.typeOf(made, 0);
        run.end();
    }

    private static void turnOfAnEquation() {
        Run run = ready("TURN: KIND when it is no theorem s = t");
        run.rule(TURN, 0, 0, KIND);
        run.rule(TURN, 1, 0, KIND);
        run.rule(TURN, 4, 0, KIND);
        run.theorems();
        run.conclusion(run.rule(TURN, 2, 0, run.newTheorem()), 5);
        run.conclusion(run.rule(TURN, 3, 0, run.newTheorem()), 6);
        run.terms();
        int different = run.join(true, 1, 2, run.newTerm());
        int assumed = run.rule(ASSUME, different, 0, run.newTheorem());
        int turned = run.newTerm();
        int made = run.rule(TURN, assumed, 0, run.newTheorem());
        run.conclusion(made, turned);
        run.hypotheses(made, 1L << different);
        run.text(turned, "=/AzbD");
        run.end();
    }

    private static void chainOfOneMiddle() {
        Run run = run("CHAIN theorem s = t, theorem t = u: |- s = u");
        int a = run.variable(0, 1, run.newTerm());
        int b = run.variable(1, 1, run.newTerm());
        int c = run.variable(2, 1, run.newTerm());
        int p = run.variable(0, 0, run.newTerm());
        int ab = run.join(true, a, b, run.newTerm());
        int bc = run.join(true, b, c, run.newTerm());
        int pp = run.join(false, p, p, run.newTerm());
        int ofAb = run.rule(AXIOM, ab, 0, run.newTheorem());
        int ofBc = run.rule(AXIOM, bc, 0, run.newTheorem());
        int ofPp = run.rule(AXIOM, pp, 0, run.newTheorem());
        run.rule(CHAIN, ofBc, ofAb, KIND);
        run.rule(CHAIN, ofAb, ofAb, KIND);
        run.rule(CHAIN, ofPp, ofPp, KIND);
        run.rule(CHAIN, ofAb, ofPp, KIND);
        run.rule(CHAIN, ofPp, ofAb, KIND);
        run.theorems();
        run.terms();
        int ac = run.newTerm();
        run.conclusion(run.rule(CHAIN, ofAb, ofBc, run.newTheorem()), ac);
        run.text(ac, "=aBcB");
        run.end();
    }

    private static void chainOfEquationsAlone() {
        Run run = run("CHAIN: KIND when one is an implication, though their parts would fit");
        int p = run.variable(0, 0, run.newTerm());
        int q = run.variable(1, 0, run.newTerm());
        int implied = run.rule(AXIOM, run.join(false, p, q, run.newTerm()), 0, run.newTheorem());
        int back = run.rule(AXIOM, run.join(false, q, p, run.newTerm()), 0, run.newTheorem());
        int equation = run.rule(AXIOM, run.join(true, p, q, run.newTerm()), 0, run.newTheorem());
        int turned = run.rule(AXIOM, run.join(true, q, p, run.newTerm()), 0, run.newTheorem());
        run.rule(CHAIN, implied, turned, KIND);
        run.rule(CHAIN, equation, back, KIND);
        run.rule(CHAIN, implied, back, KIND);
        run.theorems();
        run.terms();
        run.conclusion(run.rule(CHAIN, equation, turned, run.newTheorem()), run.newTerm());
        run.end();
    }

    private static void chainOfBoundNames() {
        Run run = run("CHAIN: t and t are the same, whatever their bound variables are named");
        int a = run.variable(0, 1, run.newTerm());
        int b = run.variable(1, 1, run.newTerm());
        int c = run.variable(0, 2, run.newTerm());
        int f = run.variable(0, run.arrow(1, 1, run.newType()), run.newTerm());
        int ofA = run.bind(false, a, a, run.newTerm());
        run.bind(false, b, b, ofA);
        int constant = run.bind(false, a, b, run.newTerm());
        int left = run.join(true, f, ofA, run.newTerm());
        int right = run.join(true, ofA, f, run.newTerm());
        int other = run.join(true, constant, f, run.newTerm());
        int first = run.rule(AXIOM, left, 0, run.newTheorem());
        int second = run.rule(AXIOM, right, 0, run.newTheorem());
        int third = run.rule(AXIOM, other, 0, run.newTheorem());
        int ofC = run.rule(REFLECT, c, 0, run.newTheorem());
        run.newTerm();
        run.rule(CHAIN, first, third, KIND);
        run.rule(CHAIN, first, ofC, KIND);
        run.theorems();
        run.conclusion(run.rule(CHAIN, first, second, run.newTheorem()), run.newTerm());
        run.conclusion(run.rule(CHAIN, second, first, run.newTheorem()), run.newTerm());
        run.end();
    }

    private static void applyOfAFunction() {
        Run run = run("APPLY: f of a type FROM -> TO, s of type FROM");
        int unary = run.arrow(1, 2, run.newType());
        int f = run.variable(0, unary, run.newTerm());
        int g = run.variable(1, unary, run.newTerm());
        int a = run.variable(0, 1, run.newTerm());
        int b = run.variable(1, 1, run.newTerm());
        int c = run.variable(0, 2, run.newTerm());
        int p = run.variable(0, 0, run.newTerm());
        int fg = run.join(true, f, g, run.newTerm());
        int ab = run.join(true, a, b, run.newTerm());
        int cc = run.join(true, c, c, run.newTerm());
        int pp = run.join(false, p, p, run.newTerm());
        int functions = run.rule(AXIOM, fg, 0, run.newTheorem());
        int arguments = run.rule(AXIOM, ab, 0, run.newTheorem());
        int others = run.rule(AXIOM, cc, 0, run.newTheorem());
        int implied = run.rule(AXIOM, pp, 0, run.newTheorem());
        run.rule(APPLY, functions, others, KIND);
        run.rule(APPLY, functions, functions, KIND);
        run.rule(APPLY, arguments, functions, KIND);
        run.rule(APPLY, arguments, arguments, KIND);
        run.rule(APPLY, functions, implied, KIND);
        run.rule(APPLY, implied, arguments, KIND);
        run.theorems();
        run.terms();
        int made = run.newTerm();
        int applied = run.rule(APPLY, functions, arguments, run.newTheorem());
        run.conclusion(applied, made);
        run.text(made, "=@aDaB@bDbB");
        run.terms();
        int fa = run.apply(f, a, run.newTerm());
        int gb = run.apply(g, b, run.newTerm());
        run.join(true, fa, gb, made);
        run.end();
    }

    private static void applyOfEquationsAlone() {
        Run run = run("APPLY: KIND when one is no equation, though its parts would fit");
        int f = run.variable(1, run.arrow(0, 0, run.newType()), run.newTerm());
        int p = run.variable(0, 0, run.newTerm());
        int fp = run.apply(f, p, run.newTerm());
        int applied = run.rule(AXIOM, fp, 0, run.newTheorem());
        int implied = run.rule(AXIOM, run.join(false, p, p, run.newTerm()), 0, run.newTheorem());
        int functions = run.rule(AXIOM, run.join(true, f, f, run.newTerm()), 0, run.newTheorem());
        int equation = run.rule(AXIOM, run.join(true, p, p, run.newTerm()), 0, run.newTheorem());
        int all = run.rule(AXIOM, run.bind(true, f, p, run.newTerm()), 0, run.newTheorem());
        run.rule(APPLY, applied, equation, KIND);
        run.rule(APPLY, functions, implied, KIND);
        run.rule(APPLY, functions, all, KIND);
        run.rule(APPLY, functions, applied, KIND);
        run.theorems();
        run.terms();
        run.conclusion(run.rule(APPLY, functions, equation, run.newTheorem()), run.newTerm());
        run.end();
    }

    // ---- ABSTRACT, BETA, REPLACE

    private static void abstractOfAnEquation() {
        Run run = ready("ABSTRACT: KIND when it is no theorem s = t or v is no variable");
        run.rule(ABSTRACT, 0, 8, KIND);
        run.rule(ABSTRACT, 1, 8, KIND);
        run.rule(ABSTRACT, 4, 8, KIND);
        for (int t = 2; t < 8; t++) {
            run.rule(ABSTRACT, 3, t, KIND);
        }
        run.theorems();
        run.terms();
        run.arrow(1, 1, run.newType());
        int made = run.newTerm();
        run.conclusion(run.rule(ABSTRACT, 2, 8, run.newTheorem()), made);
        run.text(made, "=/BaA/BaA");
        run.arrow(1, 0, run.newType());
        run.terms();
        int bound = run.newTerm();
        run.conclusion(run.rule(ABSTRACT, 2, 0, run.newTheorem()), bound);
        run.text(bound, "=/Az/Az");
        run.end();
    }

    private static void abstractFreeInAHypothesis() {
        Run run = run("ABSTRACT: BOUND when v is free in a hypothesis");
        int a = run.variable(0, 1, run.newTerm());
        int b = run.variable(1, 1, run.newTerm());
        int c = run.variable(2, 1, run.newTerm());
        int ab = run.join(true, a, b, run.newTerm());
        int assumed = run.rule(ASSUME, ab, 0, run.newTheorem());
        int axiom = run.rule(AXIOM, ab, 0, run.newTheorem());
        run.rule(ABSTRACT, assumed, a, BOUND);
        run.rule(ABSTRACT, assumed, b, BOUND);
        run.rule(ABSTRACT, assumed, ab, KIND);
        run.theorems();
        run.terms();
        run.variable(0, 3, NONE);
        int free = run.newTerm();
        int made = run.rule(ABSTRACT, assumed, c, run.newTheorem());
        run.conclusion(made, free);
        run.hypotheses(made, 1L << ab);
        run.text(free, "=/BaB/BbB");
        run.arrow(1, 1, run.newType());
        int ofA = run.newTerm();
        run.conclusion(run.rule(ABSTRACT, axiom, a, run.newTheorem()), ofA);
        run.text(ofA, "=/Bz/BbB");
        run.end();
    }

    private static void betaOfAnAbstraction() {
        Run run = ready("BETA: KIND when t is no application of an abstraction");
        int inside = run.apply(1, 3, run.newTerm());
        int applied = run.apply(1, 0, run.newTerm());
        for (int t = 0; t < 9; t++) {
            if (t != 3) {
                run.rule(BETA, t, 0, KIND);
            }
        }
        run.rule(BETA, inside, 0, KIND);
        run.rule(BETA, applied, 0, KIND);
        run.theorems();
        run.terms();
        int made = run.newTerm();
        int beta = run.rule(BETA, 3, 0, run.newTheorem());
        run.conclusion(beta, made);
        run.hypotheses(beta, 0);
        run.text(made, "=@/AzaAaA");
        run.end();
    }

    private static void replaceOfAProp() {
        Run run = ready("REPLACE theorem p = q (PROP), theorem p: |- q");
        int other = run.join(true, 0, 4, run.newTerm());
        int equation = run.rule(AXIOM, other, 0, run.newTheorem());
        run.rule(REPLACE, equation, 1, KIND);
        run.rule(REPLACE, equation, equation, KIND);
        run.rule(REPLACE, 3, 0, KIND);
        run.rule(REPLACE, 1, 0, KIND);
        run.rule(REPLACE, 0, equation, KIND);
        run.rule(REPLACE, 4, 0, KIND);
        run.theorems();
        run.conclusion(run.rule(REPLACE, equation, 0, run.newTheorem()), 4);
        run.conclusion(run.rule(REPLACE, 2, 0, run.newTheorem()), 0);
        run.terms();
        run.end();
    }

    // ---- SUBSTITUTE

    private static void substituteOfAVariable() {
        Run run = ready("SUBSTITUTE: KIND when v is no variable");
        int c = run.constant(0, 0, run.newTerm());
        run.rule(SUBSTITUTE, 1, pair(c, 0), KIND);
        run.rule(SUBSTITUTE, 1, pair(2, 1), KIND);
        for (int t = 3; t < 8; t++) {
            run.rule(SUBSTITUTE, 1, pair(t, 0), KIND);
        }
        run.theorems();
        run.terms();
        int made = run.newTerm();
        run.conclusion(run.rule(SUBSTITUTE, 1, pair(0, c), run.newTheorem()), made);
        run.text(made, ">00");
        run.end();
    }

    private static void substituteOfItsType() {
        Run run = ready("SUBSTITUTE: term s of its type");
        run.rule(SUBSTITUTE, 1, pair(0, 1), KIND);
        run.rule(SUBSTITUTE, 1, pair(0, 8), KIND);
        run.rule(SUBSTITUTE, 1, pair(8, 0), KIND);
        run.rule(SUBSTITUTE, 1, pair(1, 0), KIND);
        run.theorems();
        run.terms();
        run.conclusion(run.rule(SUBSTITUTE, 1, pair(0, 0), run.newTheorem()), 4);
        run.conclusion(run.rule(SUBSTITUTE, 1, pair(1, 2), run.newTheorem()), 4);
        run.conclusion(run.rule(SUBSTITUTE, 1, pair(8, 8), run.newTheorem()), 4);
        run.terms();
        int made = run.newTerm();
        run.conclusion(run.rule(SUBSTITUTE, 3, pair(1, 2), run.newTheorem()), made);
        run.text(made, "=/Az/Az");
        run.end();
    }

    private static void substituteInHypothesesAndConclusion() {
        Run run = run("SUBSTITUTE: each term of h with s for v |- c with s for v");
        int p = run.variable(0, 0, run.newTerm());
        int q = run.variable(1, 0, run.newTerm());
        int r = run.variable(2, 0, run.newTerm());
        int pq = run.join(false, p, q, run.newTerm());
        int implied = run.rule(ASSUME, pq, 0, run.newTheorem());
        int ofP = run.rule(ASSUME, p, 0, run.newTheorem());
        int made = run.rule(DETACH, implied, ofP, run.newTheorem());
        run.hypotheses(made, 1L << p | 1L << pq);
        int rq = run.newTerm();
        int inHypotheses = run.rule(SUBSTITUTE, made, pair(p, r), run.newTheorem());
        run.text(rq, ">cAbA");
        run.hypotheses(inHypotheses, 1L << r | 1L << rq);
        run.conclusion(inHypotheses, q);
        int pr = run.newTerm();
        int inBoth = run.rule(SUBSTITUTE, made, pair(q, r), run.newTheorem());
        run.text(pr, ">aAcA");
        run.hypotheses(inBoth, 1L << p | 1L << pr);
        run.conclusion(inBoth, r);
        int inNone = run.rule(SUBSTITUTE, made, pair(r, p), run.newTheorem());
        run.hypotheses(inNone, 1L << p | 1L << pq);
        run.conclusion(inNone, q);
        run.hypotheses(made, 1L << p | 1L << pq);
        run.terms();
        run.end();
    }

    private static void substituteMakesHypothesesOne() {
        Run run = run("HYPOTHESES, a set of terms: two that become the same are one");
        int p = run.variable(0, 0, run.newTerm());
        int q = run.variable(1, 0, run.newTerm());
        int pq = run.join(false, p, q, run.newTerm());
        int implied = run.rule(ASSUME, pq, 0, run.newTheorem());
        int ofP = run.rule(ASSUME, p, 0, run.newTheorem());
        int inner = run.rule(DETACH, implied, ofP, run.newTheorem());
        int ofQ = run.rule(ASSUME, q, 0, run.newTheorem());
        int qq = run.newTerm();
        int outer = run.rule(DISCHARGE, inner, q, run.newTheorem());
        run.text(qq, ">bAbA");
        int three = run.rule(DETACH, outer, ofQ, run.newTheorem());
        run.hypotheses(three, 1L << p | 1L << q | 1L << pq);
        int pp = run.newTerm();
        int one = run.rule(SUBSTITUTE, three, pair(q, p), run.newTheorem());
        run.text(pp, ">aAaA");
        run.hypotheses(one, 1L << p | 1L << pp);
        run.conclusion(one, p);
        int other = run.rule(SUBSTITUTE, three, pair(p, q), run.newTheorem());
        run.hypotheses(other, 1L << q | 1L << qq);
        run.terms();
        run.end();
    }

    // ---- of terms that are the same one is kept

    private static void conclusionsThatAreKept() {
        Run run = run("of terms that are the same one is kept: the conclusions of rules");
        int p = run.prop(1);
        int pp = run.prop(3);
        int all = run.prop(2);
        int f = run.bind(false, p, p, run.newTerm());
        run.typeOf(f, run.newType());
        int fp = run.apply(f, p, run.newTerm());
        int same = run.join(true, p, p, run.newTerm());
        int functions = run.join(true, f, f, run.newTerm());
        int values = run.join(true, fp, fp, run.newTerm());
        int value = run.join(true, fp, p, run.newTerm());
        int ofP = run.rule(ASSUME, p, 0, run.newTheorem());
        int axiom = run.rule(AXIOM, p, 0, run.newTheorem());
        int implied = run.rule(DISCHARGE, ofP, p, run.newTheorem());
        run.conclusion(implied, pp);
        run.conclusion(run.rule(DETACH, implied, ofP, run.newTheorem()), p);
        int general = run.rule(GENERAL, axiom, p, run.newTheorem());
        run.conclusion(general, all);
        run.conclusion(run.rule(SPECIAL, general, pp, run.newTheorem()), pp);
        int reflected = run.rule(REFLECT, p, 0, run.newTheorem());
        run.conclusion(reflected, same);
        run.conclusion(run.rule(TURN, reflected, 0, run.newTheorem()), same);
        run.conclusion(run.rule(CHAIN, reflected, reflected, run.newTheorem()), same);
        int abstracted = run.rule(ABSTRACT, reflected, p, run.newTheorem());
        run.conclusion(abstracted, functions);
        run.conclusion(run.rule(APPLY, abstracted, reflected, run.newTheorem()), values);
        run.conclusion(run.rule(BETA, fp, 0, run.newTheorem()), value);
        run.conclusion(run.rule(REPLACE, reflected, axiom, run.newTheorem()), p);
        run.conclusion(run.rule(SUBSTITUTE, axiom, pair(p, pp), run.newTheorem()), pp);
        run.terms();
        run.end();
    }

    private static void conclusionsThatComeFirst() {
        Run run = run("of terms that are the same one is kept: made by a rule, then by a call");
        int p = run.prop(1);
        int f = run.bind(false, p, p, run.newTerm());
        run.typeOf(f, run.newType());
        int fp = run.apply(f, p, run.newTerm());
        int reflected = run.rule(REFLECT, p, 0, run.newTheorem());
        run.join(true, p, p, run.newTerm());
        int abstracted = run.rule(ABSTRACT, reflected, p, run.newTheorem());
        run.join(true, f, f, run.newTerm());
        run.rule(APPLY, abstracted, reflected, run.newTheorem());
        run.join(true, fp, fp, run.newTerm());
        run.rule(BETA, fp, 0, run.newTheorem());
        run.join(true, fp, p, run.newTerm());
        int assumed = run.rule(ASSUME, p, 0, run.newTheorem());
        int implied = run.rule(DISCHARGE, assumed, p, run.newTheorem());
        int pp = run.join(false, p, p, run.newTerm());
        run.rule(GENERAL, implied, p, run.newTheorem());
        run.bind(true, p, pp, run.newTerm());
        run.rule(SUBSTITUTE, implied, pair(p, fp), run.newTheorem());
        run.join(false, fp, fp, run.newTerm());
        run.terms();
        run.end();
    }

    // ---- names of bound variables of t do not catch those that are free in s

    private static void namesAreNotCaughtBySpecial() {
        Run run = run("SPECIAL: names of bound variables of t do not catch those free in s");
        int a = run.variable(0, 1, run.newTerm());
        int b = run.variable(1, 1, run.newTerm());
        int ab = run.join(true, a, b, run.newTerm());
        int inner = run.bind(true, b, ab, run.newTerm());
        int outer = run.bind(true, a, inner, run.newTerm());
        int axiom = run.rule(AXIOM, outer, 0, run.newTheorem());
        int made = run.newTerm();
        int once = run.rule(SPECIAL, axiom, b, run.newTheorem());
        run.conclusion(once, made);
        run.text(made, "!B=bBz");
        run.free(b, made, true);
        run.free(a, made, false);
        run.conclusion(run.rule(SPECIAL, once, a, run.newTheorem()), run.newTerm());
        run.text(made + 1, "=bBaB");
        run.conclusion(run.rule(SPECIAL, axiom, a, run.newTheorem()), inner);
        run.end();
    }

    private static void namesAreNotCaughtByBeta() {
        Run run = run("BETA: names of bound variables of t do not catch those free in s");
        int a = run.variable(0, 1, run.newTerm());
        int b = run.variable(1, 1, run.newTerm());
        int inner = run.bind(false, b, a, run.newTerm());
        int outer = run.bind(false, a, inner, run.newTerm());
        run.typeOf(inner, run.newType());
        run.typeOf(outer, run.newType());
        int toB = run.apply(outer, b, run.newTerm());
        int made = run.newTerm();
        run.conclusion(run.rule(BETA, toB, 0, run.newTheorem()), made);
        run.text(made, "=@/B/BybB/BbB");
        run.free(b, made, true);
        int toA = run.apply(outer, a, run.newTerm());
        int other = run.newTerm();
        run.conclusion(run.rule(BETA, toA, 0, run.newTheorem()), other);
        run.text(other, "=@/B/ByaB/BaB");
        run.end();
    }

    private static void namesAreNotCaughtBySubstitute() {
        Run run = run("SUBSTITUTE: names of bound variables of t do not catch those free in s");
        int a = run.variable(0, 1, run.newTerm());
        int b = run.variable(1, 1, run.newTerm());
        int ab = run.join(true, a, b, run.newTerm());
        int all = run.bind(true, b, ab, run.newTerm());
        int assumed = run.rule(ASSUME, all, 0, run.newTheorem());
        int changed = run.newTerm();
        int made = run.rule(SUBSTITUTE, assumed, pair(a, b), run.newTheorem());
        run.conclusion(made, changed);
        run.hypotheses(made, 1L << changed);
        run.text(changed, "!B=bBz");
        run.free(b, changed, true);
        int back = run.rule(SUBSTITUTE, made, pair(b, a), run.newTheorem());
        run.conclusion(back, all);
        run.hypotheses(back, 1L << all);
        run.terms();
        run.end();
    }

    private static void boundStaysBound() {
        Run run = run("s in place of v wherever it is free in t: not where it is bound");
        int p = run.variable(0, 0, run.newTerm());
        int q = run.variable(1, 0, run.newTerm());
        int all = run.bind(true, p, p, run.newTerm());
        int both = run.join(false, all, p, run.newTerm());
        int axiom = run.rule(AXIOM, both, 0, run.newTheorem());
        int closed = run.rule(AXIOM, all, 0, run.newTheorem());
        int made = run.newTerm();
        run.conclusion(run.rule(SUBSTITUTE, axiom, pair(p, q), run.newTheorem()), made);
        run.text(made, ">!AzbA");
        run.conclusion(run.rule(SUBSTITUTE, closed, pair(p, q), run.newTheorem()), all);
        int twice = run.bind(true, p, all, run.newTerm());
        int general = run.rule(AXIOM, twice, 0, run.newTheorem());
        run.conclusion(run.rule(SPECIAL, general, q, run.newTheorem()), all);
        run.terms();
        run.end();
    }
}
