import java.util.ArrayList;
import java.util.HashMap;
import java.util.List;
import java.util.Map;
import java.util.function.ToLongFunction;

/**
 * A run of calls on a new object, each with the answer that is due, for one sentence of the document.
 *
 * <p>As a refused call changes nothing, the run is made once as it stands and once without the calls
 * that are refused; and behind each of these the object must answer all questions, and some calls
 * that make types, variables and constants, as one that was not asked it.
 */
final class Run implements Names {
    private static final int MOST_CALLS = 512;
    /** Stands in the place of a refused call, so that both objects are asked equally often. */
    private static final Call QUESTION = new Call("a question", ProofKernel::terms, 0, false);

    private record Call(String name, ToLongFunction<ProofKernel> ask, long due, boolean refused) {
    }

    private final Due due;
    private final String sentence;
    private final List<Call> calls = new ArrayList<>();
    private final Map<Integer, Integer> props = new HashMap<>();
    private int types = 3;
    private int terms;
    private int theorems;

    Run(Due due, String sentence) {
        this.due = due;
        this.sentence = sentence;
    }

    // ---- the numbers that are due for what is new

    int newType() {
        types++;
        return types - 1;
    }

    int newTerm() {
        terms++;
        return terms - 1;
    }

    int newTheorem() {
        theorems++;
        return theorems - 1;
    }

    // ---- calls that make something: each answers its own number that is due

    int arrow(int from, int to, int due) {
        return make("arrow(" + from + ", " + to + ")", x -> x.arrow(from, to), due);
    }

    int variable(int name, int type, int due) {
        return make("variable(" + name + ", " + type + ")", x -> x.variable(name, type), due);
    }

    int constant(int n, int type, int due) {
        return make("constant(" + n + ", " + type + ")", x -> x.constant(n, type), due);
    }

    int apply(int f, int a, int due) {
        return make("apply(" + f + ", " + a + ")", x -> x.apply(f, a), due);
    }

    int bind(boolean all, int v, int t, int due) {
        return make("bind(" + all + ", " + v + ", " + t + ")", x -> x.bind(all, v, t), due);
    }

    int join(boolean equal, int a, int b, int due) {
        return make("join(" + equal + ", " + a + ", " + b + ")", x -> x.join(equal, a, b), due);
    }

    int rule(int rule, int x, int y, int due) {
        return make("rule(" + rule + ", " + x + ", " + y + ")", k -> k.rule(rule, x, y), due);
    }

    private int make(String name, ToLongFunction<ProofKernel> ask, int due) {
        calls.add(new Call(name, ask, due, due < 0));
        return due;
    }

    // ---- questions

    void terms() {
        ask("terms()", ProofKernel::terms, terms);
    }

    void theorems() {
        ask("theorems()", ProofKernel::theorems, theorems);
    }

    void typeOf(int t, int due) {
        ask("typeOf(" + t + ")", x -> x.typeOf(t), due);
    }

    void size(int t, int due) {
        ask("size(" + t + ")", x -> x.size(t), due);
    }

    void free(int v, int t, boolean due) {
        ask("free(" + v + ", " + t + ")", x -> x.free(v, t) ? 1 : 0, due ? 1 : 0);
    }

    void printed(int t, int i, int due) {
        ask("printed(" + t + ", " + i + ")", x -> x.printed(t, i), due);
    }

    /** A whole term, printed, with its length and that there is nothing before and behind it. */
    void text(int t, String due) {
        printed(t, -2, NONE);
        printed(t, -1, due.length());
        for (int i = 0; i < due.length(); i++) {
            printed(t, i, due.charAt(i));
        }
        printed(t, due.length(), NONE);
    }

    void conclusion(int k, int due) {
        ask("conclusion(" + k + ")", x -> x.conclusion(k), due);
    }

    void hypotheses(int k, long due) {
        ask("hypotheses(" + k + ")", x -> x.hypotheses(k), due);
    }

    void axioms(int k, long due) {
        ask("axioms(" + k + ")", x -> x.axioms(k), due);
    }

    void steps(int k, int due) {
        ask("steps(" + k + ")", x -> x.steps(k), due);
    }

    private void ask(String name, ToLongFunction<ProofKernel> ask, long due) {
        calls.add(new Call(name, ask, due, false));
    }

    // ---- much at once

    /** A term of a size that is PROP, of one variable: it is free if halving the size ends at 1. */
    int prop(int size) {
        Integer kept = props.get(size);
        if (kept != null) {
            return kept;
        }
        int made;
        if (size == 1) {
            made = variable(0, 0, newTerm());
        } else if (size % 2 == 0) {
            int part = prop(size - 1);
            made = bind(true, prop(1), part, newTerm());
        } else {
            int half = prop((size - 1) / 2);
            made = join(false, half, half, newTerm());
        }
        props.put(size, made);
        return made;
    }

    /** Terms of type 2 and equations of them, until there are so many terms. */
    void fillTerms(int number) {
        int first = terms;
        for (int name = 0; name < 10 && terms < number; name++) {
            variable(name, 2, newTerm());
        }
        for (int pair = 0; pair < 100 && terms < number; pair++) {
            join(true, first + pair / 10, first + pair % 10, newTerm());
        }
    }

    /** Types 2 -> (2 -> ..), until there are so many. */
    void fillTypes(int number) {
        int last = 2;
        while (types < number) {
            last = arrow(2, last, newType());
        }
    }

    void fillTheorems(int number) {
        int p = prop(1);
        while (theorems < number) {
            rule(AXIOM, p, 0, newTheorem());
        }
    }

    int calls() {
        return calls.size();
    }

    // ---- what comes of it

    void end() {
        due.is(sentence + ": at most 512 calls", calls.size() <= MOST_CALLS, true);
        compare(calls, sentence);
        List<Call> spared = new ArrayList<>();
        for (Call call : calls) {
            spared.add(call.refused ? QUESTION : call);
        }
        compare(spared, sentence + " (without the refused calls)");
        for (int i = 0; i < calls.size(); i++) {
            if (calls.get(i).refused && i + 1 < MOST_CALLS) {
                due.is(sentence + ": behind " + calls.get(i).name,
                        new Answers(calls.subList(0, i + 1)).all(),
                        new Answers(spared.subList(0, i + 1)).all());
            }
        }
    }

    private void compare(List<Call> made, String label) {
        ProofKernel kernel = new ProofKernel();
        for (Call call : made) {
            long answer = call.ask.applyAsLong(kernel);
            if (call != QUESTION) {
                due.is(label + ": " + call.name, answer, call.due);
            }
        }
    }

    /** What objects answer behind the same calls, none of them asked more than 512 times. */
    private static final class Answers {
        private final List<Call> before;
        private final StringBuilder answers = new StringBuilder();
        private ProofKernel kernel;
        private int asked;

        Answers(List<Call> before) {
            this.before = before;
            renew();
        }

        String all() {
            long terms = ask(ProofKernel::terms);
            long theorems = ask(ProofKernel::theorems);
            for (int t = 0; t < terms; t++) {
                term(t);
                free(t, terms);
            }
            for (int k = 0; k < theorems; k++) {
                theorem(k);
            }
            makers();
            return answers.toString();
        }

        private void term(int t) {
            ask(x -> x.typeOf(t));
            ask(x -> x.size(t));
            long length = ask(x -> x.printed(t, -1));
            for (int i = 0; i < length; i++) {
                int at = i;
                ask(x -> x.printed(t, at));
            }
        }

        private void free(int t, long terms) {
            for (int v = 0; v < terms; v++) {
                int variable = v;
                ask(x -> x.free(variable, t) ? 1 : 0);
            }
        }

        private void theorem(int k) {
            ask(x -> x.conclusion(k));
            ask(x -> x.hypotheses(k));
            ask(x -> x.axioms(k));
            ask(x -> x.steps(k));
        }

        /** These change the object, so that each sort of them begins with a new one. */
        private void makers() {
            renew();
            for (int type = 0; type <= 16; type++) {
                int of = type;
                ask(x -> x.variable(9, of));
            }
            renew();
            for (int n = 0; n < 4; n++) {
                int number = n;
                ask(x -> x.constant(number, 2));
                ask(x -> x.constant(number, 1));
            }
            renew();
            for (int pair = 0; pair < 25; pair++) {
                int from = pair / 5;
                int to = pair % 5;
                ask(x -> x.arrow(from, to));
            }
        }

        private long ask(ToLongFunction<ProofKernel> question) {
            if (asked == MOST_CALLS) {
                renew();
            }
            asked++;
            long answer = question.applyAsLong(kernel);
            answers.append(answer).append(' ');
            return answer;
        }

        private void renew() {
            kernel = new ProofKernel();
            for (Call call : before) {
                call.ask.applyAsLong(kernel);
            }
            asked = before.size();
        }
    }
}
