import java.util.ArrayList;
import java.util.List;
import java.util.Random;
import java.util.TreeMap;

/** Long runs of calls, the same each time, on the program and on the model of the document. */
public final class ModelTest {
    private static final int RUNS = 1500;
    private static final int CALLS = 512;
    private static final Due DUE = new Due("ModelTest");
    private static final TreeMap<String, Integer> REACHED = new TreeMap<>();

    private final Random random;
    private final ProofKernel kernel = new ProofKernel();
    private final Model model = new Model();
    private final int names;
    private final int moreTypes;
    private final int ruleShare;
    private final int wrongShare;

    private ModelTest(int seed) {
        random = new Random(seed);
        names = 1 + random.nextInt(4);
        moreTypes = random.nextInt(30);
        ruleShare = 10 + random.nextInt(70);
        wrongShare = random.nextInt(20);
    }

    public static void main(String[] args) {
        for (int seed = 0; seed < RUNS; seed++) {
            new ModelTest(seed).run(seed);
        }
        for (int rule = 0; rule < 14; rule++) {
            reached("rule " + rule + " made");
            reached("rule " + rule + " NONE");
            reached("rule " + rule + " ROOM");
            if (rule != 6) {
                reached("rule " + rule + " KIND");
            }
        }
        reached("rule 4 BOUND");
        reached("rule 10 BOUND");
        for (String call : new String[] {"variable", "constant", "apply", "bind", "join"}) {
            reached(call + " made");
            reached(call + " NONE");
            reached(call + " ROOM");
        }
        reached("arrow ROOM");
        DUE.end();
    }

    private static void reached(String what) {
        DUE.is("reached " + what, REACHED.getOrDefault(what, 0) > 0, true);
    }

    private void run(int seed) {
        List<String> calls = new ArrayList<>();
        for (int call = 0; call < CALLS; call++) {
            if (!step(calls)) {
                System.out.println("seed " + seed + ": " + String.join("; ", calls));
                return;
            }
        }
        DUE.is("state after run " + seed, Due.state(kernel), state());
    }

    private boolean step(List<String> calls) {
        int kind = random.nextInt(100);
        if (kind < ruleShare) {
            return rule(calls);
        }
        if (kind % 10 == 0) {
            return question(calls);
        }
        return make(calls);
    }

    private boolean make(List<String> calls) {
        boolean flag = random.nextBoolean();
        int a = term();
        int b = term();
        switch (random.nextInt(moreTypes < 10 ? 12 : 8)) {
            case 0, 8 -> {
                int from = type();
                int to = type();
                if (moreTypes > 0 && model.types() > 3 + moreTypes / 2) {
                    return true;
                }
                return answered(calls, "arrow", from, to, kernel.arrow(from, to),
                        model.arrow(from, to));
            }
            case 1 -> {
                int name = random.nextInt(100) < wrongShare ? random.nextInt(14) - 2
                        : random.nextInt(names);
                int type = type();
                return answered(calls, "variable", name, type, kernel.variable(name, type),
                        model.variable(name, type));
            }
            case 2 -> {
                int n = random.nextInt(6) - 1;
                int type = type();
                return answered(calls, "constant", n, type, kernel.constant(n, type),
                        model.constant(n, type));
            }
            case 3, 4 -> {
                for (int i = 0; i < 30 && !model.applies(a, b); i++) {
                    a = term();
                    b = term();
                }
                return answered(calls, "apply", a, b, kernel.apply(a, b), model.apply(a, b));
            }
            case 5, 6 -> {
                for (int i = 0; i < 10 && model.size(a) != 1; i++) {
                    a = term();
                }
                return answered(calls, flag ? "bind all" : "bind", a, b, kernel.bind(flag, a, b),
                        model.bind(flag, a, b));
            }
            default -> {
                return answered(calls, flag ? "join equal" : "join", a, b,
                        kernel.join(flag, a, b), model.join(flag, a, b));
            }
        }
    }

    private boolean rule(List<String> calls) {
        int rule = random.nextInt(14);
        if (random.nextInt(100) < wrongShare / 4) {
            rule = random.nextInt(20) - 3;
        }
        int x = 0;
        int y = 0;
        int tries = random.nextInt(5) == 0 ? 1 : 60;
        for (int i = 0; i < tries; i++) {
            x = rule == 0 || rule == 1 || rule == 6 || rule == 11 ? term() : theorem();
            y = rule == 13 ? 64 * term() + term() : rule == 3 || rule >= 8 && rule <= 12 && rule != 10
                    ? theorem() : term();
            int refusal = model.refusal(rule, x, y);
            if (refusal == 0 || refusal == Model.BOUND) {
                break;
            }
        }
        // Axioms and assumptions always fit: fewer of them leave room for the other rules.
        if (rule < 2 && model.theorems() > 10 && random.nextInt(4) != 0) {
            return true;
        }
        int got = kernel.rule(rule, x, y);
        calls.add("rule(" + rule + ", " + x + ", " + y + ")");
        return told(calls, "rule " + rule, got, model.rule(rule, x, y));
    }

    private boolean question(List<String> calls) {
        int t = random.nextInt(64) - 2;
        int k = random.nextInt(44) - 2;
        int v = term();
        calls.add("questions " + t + " " + k + " " + v);
        String got = kernel.typeOf(t) + " " + kernel.size(t) + " " + kernel.free(v, t) + " "
                + kernel.free(t, v) + " " + Due.text(kernel, t) + " " + kernel.conclusion(k) + " "
                + kernel.hypotheses(k) + " " + kernel.axioms(k) + " " + kernel.steps(k) + " "
                + kernel.terms() + " " + kernel.theorems();
        String want = model.typeOf(t) + " " + model.size(t) + " " + model.free(v, t) + " "
                + model.free(t, v) + " " + model.text(t) + " " + model.conclusion(k) + " "
                + model.hypotheses(k) + " " + model.axioms(k) + " " + model.steps(k) + " "
                + model.terms() + " " + model.theorems();
        DUE.is("questions " + t + " " + k + " " + v, got, want);
        return got.equals(want);
    }

    private boolean answered(List<String> calls, String name, int a, int b, int got, int want) {
        calls.add(name + "(" + a + ", " + b + ")");
        return told(calls, name, got, want);
    }

    private boolean told(List<String> calls, String name, int got, int want) {
        DUE.is(calls.get(calls.size() - 1), got, want);
        String[] refusals = {"", "NONE", "KIND", "BOUND", "ROOM"};
        REACHED.merge(name + " " + (want >= 0 ? "made" : refusals[-want]), 1, Integer::sum);
        return got == want;
    }

    private int type() {
        return random.nextInt(100) < wrongShare ? random.nextInt(20) - 2
                : random.nextInt(model.types());
    }

    private int term() {
        return random.nextInt(100) < wrongShare / 2 ? random.nextInt(64) - 2
                : model.terms() == 0 ? 0 : random.nextInt(model.terms());
    }

    private int theorem() {
        return random.nextInt(100) < wrongShare / 2 ? random.nextInt(44) - 2
                : model.theorems() == 0 ? 0 : random.nextInt(model.theorems());
    }

    private String state() {
        StringBuilder state = new StringBuilder();
        for (int t = 0; t < model.terms(); t++) {
            state.append(t).append(' ').append(model.text(t)).append(':').append(model.typeOf(t));
            state.append('#').append(model.size(t)).append('\n');
        }
        for (int k = 0; k < model.theorems(); k++) {
            state.append(k).append(' ').append(model.hypotheses(k)).append("|-");
            state.append(model.conclusion(k)).append(' ').append(model.axioms(k));
            state.append(' ').append(model.steps(k)).append('\n');
        }
        return state.toString();
    }
}
