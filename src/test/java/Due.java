/** Counts the answers that are not the ones that are due, and tells each of them. */
final class Due {
    private final String test;
    private int wrong;
    private int asked;

    Due(String test) {
        this.test = test;
    }

    void is(String what, long got, long want) {
        asked++;
        if (got != want) {
            wrong++;
            System.out.println(test + ": " + what + " answered " + got + ", due is " + want);
        }
    }

    void is(String what, boolean got, boolean want) {
        is(what, got ? 1 : 0, want ? 1 : 0);
    }

    void is(String what, String got, String want) {
        asked++;
        if (!got.equals(want)) {
            wrong++;
            System.out.println(test + ": " + what + " answered " + got + ", due is " + want);
        }
    }

    void end() {
        System.out.println(test + ": " + asked + " answers, " + wrong + " not as due");
        if (wrong != 0) {
            System.exit(1);
        }
    }

    /** A term as the kernel prints it, character by character. */
    static String text(ProofKernel kernel, int term) {
        int length = kernel.printed(term, -1);
        StringBuilder text = new StringBuilder();
        for (int i = 0; i < length; i++) {
            text.append((char) kernel.printed(term, i));
        }
        return text.toString();
    }

    /** All that can be asked of a kernel without changing it, as one text. */
    static String state(ProofKernel kernel) {
        StringBuilder state = new StringBuilder();
        for (int t = 0; t < kernel.terms(); t++) {
            state.append(t).append(' ').append(text(kernel, t)).append(':').append(kernel.typeOf(t));
            state.append('#').append(kernel.size(t)).append('\n');
        }
        for (int k = 0; k < kernel.theorems(); k++) {
            state.append(k).append(' ').append(kernel.hypotheses(k)).append("|-");
            state.append(kernel.conclusion(k)).append(' ').append(kernel.axioms(k));
            state.append(' ').append(kernel.steps(k)).append('\n');
        }
        return state.toString();
    }
}
