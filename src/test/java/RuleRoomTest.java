/** Promise 8 and the rules: ROOM, what is kept on the way, and in which order. */
public final class RuleRoomTest implements Names {
    private static final Due DUE = new Due("RuleRoomTest");

    public static void main(String[] args) {
        fortyTheoremsForEachRule();
        otherRefusalsComeBeforeForty();
        otherRefusalsComeBeforeSixty();
        dischargeOfThirty();
        generalOfThirty();
        specialOfThirty();
        reflectOfThirty();
        chainOfThirty();
        applyOfThirty();
        abstractOfThirty();
        betaOfThirty();
        substituteConclusionOfThirty();
        substituteHypothesisOfThirty();
        partsAndTurnsOfThirty();
        axiomAndAssumeWithSixty();
        dischargeWithSixty();
        detachWithSixty();
        generalWithSixty();
        specialWithSixty();
        reflectWithSixty();
        turnWithSixty();
        chainWithSixty();
        applyWithSixty();
        abstractWithSixty();
        betaWithSixty();
        replaceWithSixty();
        substituteWithSixty();
        substituteOfTwoWithFiftyNine();
        substituteOfTwoHypotheses();
        substituteTooLargeBehindOneThatFits();
        substituteConclusionTooLargeBehindHypothesis();
        abstractMakesItsType();
        abstractWithSixteenTypes();
        abstractWithoutRoomMakesNoType();
        hypothesesBeforeTheConclusion();
        hypothesesByTheirNumbers();
        DUE.end();
    }

    private static Run run(String sentence) {
        return new Run(DUE, sentence);
    }

    private static int pair(int v, int s) {
        return 64 * v + s;
    }

    /** A variable that is PROP, beside that of Run's own terms, which has the name 0. */
    private static int prop(Run run, int name) {
        return run.variable(name, 0, run.newTerm());
    }

    private static int axiom(Run run, int term) {
        return run.rule(AXIOM, term, 0, run.newTheorem());
    }

    private static int assume(Run run, int term) {
        return run.rule(ASSUME, term, 0, run.newTheorem());
    }

    private static int implies(Run run, int a, int b) {
        return run.join(false, a, b, run.newTerm());
    }

    private static int equal(Run run, int a, int b) {
        return run.join(true, a, b, run.newTerm());
    }

    // ---- ROOM when there are 40 theorems

    private static void fortyTheoremsForEachRule() {
        Run run = run("ROOM when there are 40 theorems");
        int p = run.prop(1);
        int f = run.variable(1, run.arrow(0, 0, run.newType()), run.newTerm());
        int a = run.variable(1, 1, run.newTerm());
        int identity = run.bind(false, p, p, run.newTerm());
        int redex = run.apply(identity, p, run.newTerm());
        int pp = axiom(run, run.prop(3));
        int all = axiom(run, run.prop(2));
        int same = axiom(run, equal(run, p, p));
        int functions = axiom(run, equal(run, f, f));
        run.fillTheorems(39);
        int last = axiom(run, p);
        int[][] calls = {
            {AXIOM, p, 0}, {ASSUME, p, 0}, {DISCHARGE, last, p}, {DETACH, pp, last},
            {GENERAL, last, p}, {SPECIAL, all, p}, {REFLECT, p, 0}, {TURN, same, 0},
            {CHAIN, same, same}, {APPLY, functions, same}, {ABSTRACT, same, a}, {BETA, redex, 0},
            {REPLACE, same, last}, {SUBSTITUTE, pp, pair(p, p)}
        };
        for (int[] call : calls) {
            run.rule(call[0], call[1], call[2], ROOM);
        }
        run.theorems();
        run.terms();
        run.variable(1, 4, NONE);
        run.steps(40, NONE);
        run.steps(39, 1);
        run.arrow(1, 0, run.newType());
        run.end();
    }

    private static void otherRefusalsComeBeforeForty() {
        Run run = run("NONE, KIND and BOUND with 40 theorems");
        int p = run.prop(1);
        int a = run.variable(1, 1, run.newTerm());
        int assumed = assume(run, p);
        run.fillTheorems(40);
        run.rule(AXIOM, 2, 0, NONE);
        run.rule(14, 0, 0, NONE);
        run.rule(TURN, 40, 0, NONE);
        run.rule(ASSUME, a, 0, KIND);
        run.rule(TURN, assumed, 0, KIND);
        run.rule(GENERAL, assumed, p, BOUND);
        run.rule(GENERAL, assumed, a, ROOM);
        run.theorems();
        run.terms();
        run.end();
    }

    private static void otherRefusalsComeBeforeSixty() {
        Run run = run("NONE, KIND and BOUND with 60 terms");
        int p = run.prop(1);
        int a = run.variable(1, 1, run.newTerm());
        int assumed = assume(run, p);
        run.fillTerms(60);
        run.rule(DISCHARGE, assumed, 60, NONE);
        run.rule(DISCHARGE, assumed, a, KIND);
        run.rule(GENERAL, assumed, p, BOUND);
        run.rule(GENERAL, assumed, a, ROOM);
        run.theorems();
        run.end();
    }

    // ---- ROOM when one of the terms is too large

    private static void dischargeOfThirty() {
        Run run = run("DISCHARGE: a term that is too large");
        int fourteen = axiom(run, run.prop(14));
        int fifteen = axiom(run, run.prop(15));
        run.rule(DISCHARGE, fifteen, run.prop(15), ROOM);
        run.terms();
        run.theorems();
        int made = run.newTerm();
        run.conclusion(run.rule(DISCHARGE, fourteen, run.prop(15), run.newTheorem()), made);
        run.size(made, 30);
        int other = run.newTerm();
        run.conclusion(run.rule(DISCHARGE, fifteen, run.prop(14), run.newTheorem()), other);
        run.size(other, 30);
        run.end();
    }

    private static void generalOfThirty() {
        Run run = run("GENERAL: a term that is too large");
        int a = run.variable(1, 1, run.newTerm());
        int large = axiom(run, run.prop(30));
        int fits = axiom(run, run.prop(29));
        run.rule(GENERAL, large, a, ROOM);
        run.rule(GENERAL, large, run.prop(1), ROOM);
        run.terms();
        run.theorems();
        int made = run.newTerm();
        run.conclusion(run.rule(GENERAL, fits, a, run.newTheorem()), made);
        run.size(made, 30);
        run.conclusion(run.rule(GENERAL, fits, run.prop(1), run.newTheorem()), run.prop(30));
        run.end();
    }

    private static void specialOfThirty() {
        Run run = run("SPECIAL: a term that is too large");
        int q = prop(run, 1);
        int fits = run.prop(28);
        int large = run.prop(29);
        int body = implies(run, run.prop(1), q);
        int theorem = axiom(run, run.bind(true, run.prop(1), body, run.newTerm()));
        run.rule(SPECIAL, theorem, large, ROOM);
        run.terms();
        run.theorems();
        int made = run.newTerm();
        run.conclusion(run.rule(SPECIAL, theorem, fits, run.newTheorem()), made);
        run.size(made, 30);
        run.end();
    }

    private static void reflectOfThirty() {
        Run run = run("REFLECT: a term that is too large");
        run.rule(REFLECT, run.prop(15), 0, ROOM);
        run.rule(REFLECT, run.prop(30), 0, ROOM);
        run.terms();
        run.theorems();
        int made = run.newTerm();
        run.conclusion(run.rule(REFLECT, run.prop(14), 0, run.newTheorem()), made);
        run.size(made, 29);
        run.end();
    }

    private static void chainOfThirty() {
        Run run = run("CHAIN: a term that is too large");
        int p = run.prop(1);
        int left = axiom(run, equal(run, run.prop(15), p));
        int fits = axiom(run, equal(run, p, run.prop(14)));
        int large = axiom(run, equal(run, p, run.prop(15)));
        run.rule(CHAIN, left, large, ROOM);
        run.terms();
        run.theorems();
        int made = run.newTerm();
        run.conclusion(run.rule(CHAIN, left, fits, run.newTheorem()), made);
        run.size(made, 30);
        run.end();
    }

    private static void applyOfThirty() {
        Run run = run("APPLY: a term that is too large");
        int f = run.variable(1, run.arrow(0, 0, run.newType()), run.newTerm());
        int functions = axiom(run, equal(run, f, f));
        int fits = axiom(run, equal(run, run.prop(12), run.prop(13)));
        int large = axiom(run, equal(run, run.prop(13), run.prop(13)));
        run.rule(APPLY, functions, large, ROOM);
        run.terms();
        run.theorems();
        int made = run.newTerm();
        run.conclusion(run.rule(APPLY, functions, fits, run.newTheorem()), made);
        run.size(made, 30);
        run.end();
    }

    private static void abstractOfThirty() {
        Run run = run("ABSTRACT: a term that is too large");
        int a = run.variable(1, 1, run.newTerm());
        int large = axiom(run, equal(run, run.prop(14), run.prop(14)));
        int fits = axiom(run, equal(run, run.prop(13), run.prop(14)));
        run.rule(ABSTRACT, large, a, ROOM);
        run.terms();
        run.theorems();
        run.variable(1, 3, NONE);
        int made = run.newTerm();
        run.conclusion(run.rule(ABSTRACT, fits, a, run.newTheorem()), made);
        run.size(made, 30);
        run.arrow(1, 0, run.newType());
        run.end();
    }

    private static void betaOfThirty() {
        Run run = run("BETA: a term that is too large");
        int p = run.prop(1);
        int closed = run.bind(false, p, run.prop(8), run.newTerm());
        int open = run.bind(false, p, run.prop(7), run.newTerm());
        run.typeOf(open, run.newType());
        int fits = run.apply(closed, run.prop(11), run.newTerm());
        int large = run.apply(closed, run.prop(12), run.newTerm());
        int fourPlaces = run.apply(open, run.prop(4), run.newTerm());
        run.rule(BETA, large, 0, ROOM);
        run.rule(BETA, fourPlaces, 0, ROOM);
        run.terms();
        run.theorems();
        int made = run.newTerm();
        run.conclusion(run.rule(BETA, fits, 0, run.newTheorem()), made);
        run.size(made, 30);
        int less = run.apply(open, run.prop(3), run.newTerm());
        int other = run.newTerm();
        run.conclusion(run.rule(BETA, less, 0, run.newTheorem()), other);
        run.size(other, 28);
        run.end();
    }

    private static void substituteConclusionOfThirty() {
        Run run = run("SUBSTITUTE: a conclusion that is too large");
        int q = prop(run, 1);
        int fits = run.prop(28);
        int large = run.prop(29);
        int theorem = axiom(run, implies(run, run.prop(1), q));
        run.rule(SUBSTITUTE, theorem, pair(run.prop(1), large), ROOM);
        run.terms();
        run.theorems();
        int made = run.newTerm();
        run.conclusion(run.rule(SUBSTITUTE, theorem, pair(run.prop(1), fits), run.newTheorem()),
                made);
        run.size(made, 30);
        run.end();
    }

    private static void substituteHypothesisOfThirty() {
        Run run = run("SUBSTITUTE: a hypothesis that is too large");
        int q = prop(run, 1);
        int fits = run.prop(28);
        int large = run.prop(29);
        int p = run.prop(1);
        int pq = implies(run, p, q);
        int assumed = assume(run, pq);
        int rule = axiom(run, implies(run, pq, q));
        int theorem = run.rule(DETACH, rule, assumed, run.newTheorem());
        run.hypotheses(theorem, 1L << pq);
        run.conclusion(theorem, q);
        run.rule(SUBSTITUTE, theorem, pair(p, large), ROOM);
        run.terms();
        run.theorems();
        int changed = run.newTerm();
        int made = run.rule(SUBSTITUTE, theorem, pair(p, fits), run.newTheorem());
        run.hypotheses(made, 1L << changed);
        run.conclusion(made, q);
        run.size(changed, 30);
        run.end();
    }

    private static void partsAndTurnsOfThirty() {
        Run run = run("what a rule makes of a term of 30 is not too large");
        int large = equal(run, run.prop(14), run.prop(15));
        int assumed = assume(run, large);
        run.size(large, 30);
        int turned = run.newTerm();
        run.conclusion(run.rule(TURN, assumed, 0, run.newTheorem()), turned);
        run.size(turned, 30);
        int ofFourteen = axiom(run, run.prop(14));
        run.conclusion(run.rule(REPLACE, assumed, ofFourteen, run.newTheorem()), run.prop(15));
        int all = axiom(run, run.prop(30));
        run.conclusion(run.rule(SPECIAL, all, run.prop(30), run.newTheorem()), run.prop(29));
        run.conclusion(axiom(run, run.prop(30)), run.prop(30));
        run.end();
    }

    // ---- ROOM when there would be more than 60 terms

    /** With 59 terms the rule keeps the 60th, and no other; then this one again. */
    private static void lastTerm(Run run, int[] fits, int[] other) {
        run.fillTerms(59);
        int last = run.newTerm();
        run.conclusion(run.rule(fits[0], fits[1], fits[2], run.newTheorem()), last);
        run.rule(other[0], other[1], other[2], ROOM);
        run.terms();
        run.theorems();
        run.conclusion(run.rule(fits[0], fits[1], fits[2], run.newTheorem()), last);
        run.end();
    }

    private static void axiomAndAssumeWithSixty() {
        Run run = run("AXIOM, ASSUME with 60 terms: they make none");
        int p = run.prop(1);
        run.fillTerms(60);
        run.rule(AXIOM, p, 0, run.newTheorem());
        run.rule(ASSUME, 59, 0, run.newTheorem());
        run.hypotheses(1, 1L << 59);
        run.conclusion(1, 59);
        run.terms();
        run.end();
    }

    private static void dischargeWithSixty() {
        Run run = run("DISCHARGE: there would be more than 60 terms");
        int q = prop(run, 1);
        int theorem = axiom(run, run.prop(1));
        lastTerm(run, new int[] {DISCHARGE, theorem, q},
                new int[] {DISCHARGE, theorem, run.prop(1)});
    }

    /** A theorem s implies, or equals, (q implies s), of which the second part is not kept. */
    private static int partsNotKept(Run run, boolean equation, int s) {
        int p = run.prop(1);
        int q = prop(run, 1);
        int qp = implies(run, q, p);
        int theorem = axiom(run, equation ? equal(run, p, qp) : implies(run, p, qp));
        int made = run.newTerm();
        int changed = run.rule(SUBSTITUTE, theorem, pair(p, s), run.newTheorem());
        run.conclusion(changed, made);
        return changed;
    }

    private static void detachWithSixty() {
        Run run = run("DETACH: there would be more than 60 terms");
        int r = prop(run, 2);
        int s = prop(run, 3);
        int first = partsNotKept(run, false, r);
        int second = run.newTheorem();
        run.rule(SUBSTITUTE, first, pair(r, s), second);
        run.newTerm();
        int ofR = axiom(run, r);
        int ofS = axiom(run, s);
        lastTerm(run, new int[] {DETACH, first, ofR}, new int[] {DETACH, second, ofS});
    }

    private static void generalWithSixty() {
        Run run = run("GENERAL: there would be more than 60 terms");
        int q = prop(run, 1);
        int theorem = axiom(run, run.prop(1));
        lastTerm(run, new int[] {GENERAL, theorem, run.prop(1)}, new int[] {GENERAL, theorem, q});
    }

    private static void specialWithSixty() {
        Run run = run("SPECIAL: there would be more than 60 terms");
        int q = prop(run, 1);
        int r = prop(run, 2);
        int pq = implies(run, run.prop(1), q);
        int theorem = axiom(run, run.bind(true, run.prop(1), pq, run.newTerm()));
        lastTerm(run, new int[] {SPECIAL, theorem, r}, new int[] {SPECIAL, theorem, q});
    }

    private static void reflectWithSixty() {
        Run run = run("REFLECT: there would be more than 60 terms");
        int a = run.variable(0, 1, run.newTerm());
        int b = run.variable(1, 1, run.newTerm());
        lastTerm(run, new int[] {REFLECT, a, 0}, new int[] {REFLECT, b, 0});
    }

    private static void turnWithSixty() {
        Run run = run("TURN: there would be more than 60 terms");
        int a = run.variable(0, 1, run.newTerm());
        int b = run.variable(1, 1, run.newTerm());
        int c = run.variable(2, 1, run.newTerm());
        int ab = axiom(run, equal(run, a, b));
        int ac = axiom(run, equal(run, a, c));
        lastTerm(run, new int[] {TURN, ab, 0}, new int[] {TURN, ac, 0});
    }

    private static void chainWithSixty() {
        Run run = run("CHAIN: there would be more than 60 terms");
        int a = run.variable(0, 1, run.newTerm());
        int b = run.variable(1, 1, run.newTerm());
        int ab = axiom(run, equal(run, a, b));
        int ba = axiom(run, equal(run, b, a));
        lastTerm(run, new int[] {CHAIN, ab, ba}, new int[] {CHAIN, ba, ab});
    }

    private static void applyWithSixty() {
        Run run = run("APPLY: there would be more than 60 terms");
        int f = run.variable(0, run.arrow(1, 1, run.newType()), run.newTerm());
        int a = run.variable(0, 1, run.newTerm());
        int b = run.variable(1, 1, run.newTerm());
        int ff = axiom(run, equal(run, f, f));
        int ab = axiom(run, equal(run, a, b));
        int ba = axiom(run, equal(run, b, a));
        lastTerm(run, new int[] {APPLY, ff, ab}, new int[] {APPLY, ff, ba});
    }

    private static void abstractWithSixty() {
        Run run = run("ABSTRACT: there would be more than 60 terms");
        int a = run.variable(0, 1, run.newTerm());
        int b = run.variable(1, 1, run.newTerm());
        int p = run.prop(1);
        int ab = axiom(run, equal(run, a, b));
        run.fillTerms(59);
        int last = run.newTerm();
        run.conclusion(run.rule(ABSTRACT, ab, a, run.newTheorem()), last);
        run.newType();
        run.rule(ABSTRACT, ab, b, ROOM);
        run.rule(ABSTRACT, ab, p, ROOM);
        run.terms();
        run.theorems();
        run.variable(0, 4, NONE);
        run.conclusion(run.rule(ABSTRACT, ab, a, run.newTheorem()), last);
        run.arrow(1, 1, 3);
        run.arrow(2, 2, run.newType());
        run.end();
    }

    private static void betaWithSixty() {
        Run run = run("BETA: there would be more than 60 terms");
        int a = run.variable(0, 1, run.newTerm());
        int b = run.variable(1, 1, run.newTerm());
        int identity = run.bind(false, a, a, run.newTerm());
        run.newType();
        int ofA = run.apply(identity, a, run.newTerm());
        int ofB = run.apply(identity, b, run.newTerm());
        lastTerm(run, new int[] {BETA, ofA, 0}, new int[] {BETA, ofB, 0});
    }

    private static void replaceWithSixty() {
        Run run = run("REPLACE: there would be more than 60 terms");
        int r = prop(run, 2);
        int s = prop(run, 3);
        int first = partsNotKept(run, true, r);
        int second = run.newTheorem();
        run.rule(SUBSTITUTE, first, pair(r, s), second);
        run.newTerm();
        int ofR = axiom(run, r);
        int ofS = axiom(run, s);
        lastTerm(run, new int[] {REPLACE, first, ofR}, new int[] {REPLACE, second, ofS});
    }

    private static void substituteWithSixty() {
        Run run = run("SUBSTITUTE: there would be more than 60 terms");
        int p = run.prop(1);
        int q = prop(run, 1);
        int r = prop(run, 2);
        int theorem = assume(run, implies(run, p, q));
        lastTerm(run, new int[] {SUBSTITUTE, theorem, pair(p, r)},
                new int[] {SUBSTITUTE, theorem, pair(q, r)});
    }

    private static void substituteOfTwoWithFiftyNine() {
        for (int number = 57; number <= 60; number++) {
            Run run = run("SUBSTITUTE makes hypothesis and conclusion, with " + number + " terms");
            int p = run.prop(1);
            int q = prop(run, 1);
            int r = prop(run, 2);
            int pq = implies(run, p, q);
            int theorem = run.newTheorem();
            run.rule(ASSUME, pq, 0, theorem);
            int implied = run.rule(DISCHARGE, theorem, r, run.newTheorem());
            run.conclusion(implied, run.newTerm());
            run.fillTerms(number);
            if (number > 58) {
                run.rule(SUBSTITUTE, implied, pair(p, r), ROOM);
                run.typeOf(number, NONE);
            } else {
                int hypothesis = run.newTerm();
                int conclusion = run.newTerm();
                int made = run.rule(SUBSTITUTE, implied, pair(p, r), run.newTheorem());
                run.hypotheses(made, 1L << hypothesis);
                run.conclusion(made, conclusion);
                run.text(hypothesis, ">cAbA");
                run.text(conclusion, ">cA>cAbA");
            }
            run.terms();
            run.theorems();
            run.end();
        }
    }

    /** A theorem of just these hypotheses and this conclusion. */
    private static int ofHypotheses(Run run, int[] hypotheses, int conclusion) {
        int chain = conclusion;
        for (int i = hypotheses.length - 1; i >= 0; i--) {
            chain = implies(run, hypotheses[i], chain);
        }
        int theorem = axiom(run, chain);
        for (int hypothesis : hypotheses) {
            theorem = run.rule(DETACH, theorem, assume(run, hypothesis), run.newTheorem());
        }
        run.conclusion(theorem, conclusion);
        return theorem;
    }

    private static void substituteOfTwoHypotheses() {
        for (int number = 58; number <= 59; number++) {
            Run run = run("SUBSTITUTE makes two hypotheses, with " + number + " terms");
            int p = run.prop(1);
            int q = prop(run, 1);
            int r = prop(run, 2);
            int pq = implies(run, p, q);
            int qp = implies(run, q, p);
            int theorem = ofHypotheses(run, new int[] {pq, qp}, q);
            run.hypotheses(theorem, 1L << pq | 1L << qp);
            run.fillTerms(number);
            if (number == 59) {
                run.rule(SUBSTITUTE, theorem, pair(p, r), ROOM);
                run.typeOf(59, NONE);
            } else {
                int first = run.newTerm();
                int second = run.newTerm();
                int made = run.rule(SUBSTITUTE, theorem, pair(p, r), run.newTheorem());
                run.hypotheses(made, 1L << first | 1L << second);
                run.conclusion(made, q);
                run.text(second, ">bAcA");
            }
            run.terms();
            run.theorems();
            run.end();
        }
    }

    // ---- then nothing is kept

    private static void substituteTooLargeBehindOneThatFits() {
        Run run = run("then nothing is kept: of two hypotheses one fits, the other does not");
        int p = run.prop(1);
        int q = prop(run, 1);
        int small = implies(run, p, q);
        int large = implies(run, p, small);
        int theorem = ofHypotheses(run, new int[] {small, large}, q);
        run.prop(13);
        run.rule(SUBSTITUTE, theorem, pair(p, run.prop(14)), ROOM);
        run.terms();
        run.theorems();
        int first = run.newTerm();
        int second = run.newTerm();
        int made = run.rule(SUBSTITUTE, theorem, pair(p, run.prop(13)), run.newTheorem());
        run.hypotheses(made, 1L << first | 1L << second);
        run.conclusion(made, q);
        run.size(first, 15);
        run.size(second, 29);
        run.end();
    }

    private static void substituteConclusionTooLargeBehindHypothesis() {
        Run run = run("then nothing is kept: a hypothesis that fits, a conclusion that does not");
        int p = run.prop(1);
        int q = prop(run, 1);
        int small = implies(run, p, q);
        int large = implies(run, p, small);
        int theorem = ofHypotheses(run, new int[] {small}, large);
        run.prop(13);
        run.rule(SUBSTITUTE, theorem, pair(p, run.prop(14)), ROOM);
        run.terms();
        run.theorems();
        int first = run.newTerm();
        int second = run.newTerm();
        int made = run.rule(SUBSTITUTE, theorem, pair(p, run.prop(13)), run.newTheorem());
        run.hypotheses(made, 1L << first);
        run.conclusion(made, second);
        run.size(second, 29);
        run.end();
    }

    // ---- the type of the abstractions

    private static void abstractMakesItsType() {
        Run run = run("ABSTRACT: the abstractions need their type, which comes then");
        int a = run.variable(0, 1, run.newTerm());
        int c = run.variable(0, 2, run.newTerm());
        int there = run.arrow(2, 1, run.newType());
        int same = axiom(run, equal(run, a, a));
        run.conclusion(run.rule(ABSTRACT, same, c, run.newTheorem()), run.newTerm());
        run.variable(0, 4, NONE);
        run.conclusion(run.rule(ABSTRACT, same, a, run.newTheorem()), run.newTerm());
        run.arrow(1, 1, run.newType());
        run.typeOf(run.bind(false, a, a, run.newTerm()), 4);
        run.typeOf(run.bind(false, c, a, run.newTerm()), there);
        run.end();
    }

    private static void abstractWithSixteenTypes() {
        Run run = run("ABSTRACT: ROOM if there are 16 types");
        int a = run.variable(0, 1, run.newTerm());
        int c = run.variable(0, 2, run.newTerm());
        int same = axiom(run, equal(run, a, a));
        run.fillTypes(15);
        run.conclusion(run.rule(ABSTRACT, same, a, run.newTheorem()), run.newTerm());
        run.arrow(1, 1, run.newType());
        run.rule(ABSTRACT, same, c, ROOM);
        run.terms();
        run.theorems();
        run.rule(ABSTRACT, same, a, run.newTheorem());
        int kind = axiom(run, equal(run, c, c));
        run.rule(ABSTRACT, kind, a, ROOM);
        run.conclusion(run.rule(ABSTRACT, kind, c, run.newTheorem()), run.newTerm());
        run.arrow(2, 2, 3);
        run.conclusion(run.rule(GENERAL, kind, a, run.newTheorem()), run.newTerm());
        run.end();
    }

    private static void abstractWithoutRoomMakesNoType() {
        Run run = run("then nothing is kept: no type of an ABSTRACT without room");
        int a = run.variable(0, 1, run.newTerm());
        int same = axiom(run, equal(run, a, a));
        run.fillTerms(60);
        run.rule(ABSTRACT, same, a, ROOM);
        run.variable(0, 3, NONE);
        run.arrow(2, 1, run.newType());
        run.arrow(1, 1, run.newType());
        run.end();
    }

    // ---- Terms are kept in this order

    private static void hypothesesBeforeTheConclusion() {
        Run run = run("Terms are kept in this order: those of the hypotheses, then the conclusion");
        int p = run.prop(1);
        int q = prop(run, 1);
        int r = prop(run, 2);
        int conclusion = implies(run, q, p);
        int hypothesis = implies(run, p, q);
        int theorem = ofHypotheses(run, new int[] {hypothesis}, conclusion);
        int first = run.newTerm();
        int second = run.newTerm();
        int made = run.rule(SUBSTITUTE, theorem, pair(p, r), run.newTheorem());
        run.hypotheses(made, 1L << first);
        run.conclusion(made, second);
        run.text(first, ">cAbA");
        run.text(second, ">bAcA");
        run.end();
    }

    private static void hypothesesByTheirNumbers() {
        Run run = run("those of the hypotheses, by the numbers that they had");
        int p = run.prop(1);
        int q = prop(run, 1);
        int r = prop(run, 2);
        int early = equal(run, p, q);
        int middle = implies(run, q, p);
        int late = implies(run, p, q);
        int theorem = ofHypotheses(run, new int[] {late, early, middle}, p);
        int first = run.newTerm();
        int second = run.newTerm();
        int third = run.newTerm();
        int made = run.rule(SUBSTITUTE, theorem, pair(p, r), run.newTheorem());
        run.hypotheses(made, 1L << first | 1L << second | 1L << third);
        run.conclusion(made, r);
        run.text(first, "=cAbA");
        run.text(second, ">bAcA");
        run.text(third, ">cAbA");
        int again = run.rule(SUBSTITUTE, made, pair(r, p), run.newTheorem());
        run.hypotheses(again, 1L << early | 1L << middle | 1L << late);
        run.terms();
        run.end();
    }
}
