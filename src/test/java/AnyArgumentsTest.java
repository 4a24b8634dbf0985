import java.util.Random;

/**
 * Calls with any arguments in any state: none throws or fails to end, also behind the 512th, where
 * the answers are free, and none answers what no question or call of the face could.
 */
public final class AnyArgumentsTest {
    private static final int RUNS = 300;
    private static final int CALLS = 3000;
    private static final int[] EDGES = {
        Integer.MIN_VALUE, Integer.MIN_VALUE + 1, Integer.MAX_VALUE, Integer.MAX_VALUE - 1, -65, -64,
        -63, -2, -1, 0, 2, 3, 9, 10, 13, 14, 15, 16, 29, 30, 31, 39, 40, 41, 59, 60, 61, 63, 64, 65,
        64 * 60 - 1, 64 * 60, 64 * 64 - 1, 64 * 64
    };
    private static final Due DUE = new Due("AnyArgumentsTest");

    private final Random random;
    private final int wildShare;
    private final ProofKernel kernel = new ProofKernel();

    private AnyArgumentsTest(int seed) {
        random = new Random(seed);
        wildShare = random.nextInt(30);
    }

    public static void main(String[] args) {
        for (int seed = 0; seed < RUNS; seed++) {
            DUE.is("calls of run " + seed + " that end", new AnyArgumentsTest(seed).run(), CALLS);
        }
        DUE.end();
    }

    private int run() {
        int ended = 0;
        for (int call = 0; call < CALLS; call++) {
            try {
                if (isPossible(answer())) {
                    ended++;
                }
            } catch (RuntimeException | StackOverflowError thrown) {
                System.out.println("AnyArgumentsTest: a call throws " + thrown);
            }
        }
        return ended;
    }

    private long answer() {
        int a = number();
        int b = number();
        boolean flag = random.nextBoolean();
        return switch (random.nextInt(20)) {
            case 0 -> kernel.arrow(a, b);
            case 1 -> kernel.variable(a, b);
            case 2 -> kernel.constant(a, b);
            case 3 -> kernel.apply(a, b);
            case 4 -> kernel.bind(flag, a, b);
            case 5 -> kernel.join(flag, a, b);
            case 6 -> kernel.typeOf(a);
            case 7 -> kernel.size(a);
            case 8 -> kernel.free(a, b) ? 1 : 0;
            case 9 -> kernel.printed(a, b);
            case 10 -> kernel.conclusion(a);
            case 11 -> kernel.hypotheses(a);
            case 12 -> kernel.axioms(a);
            case 13 -> kernel.steps(a);
            case 14 -> kernel.rule(a, b, number());
            case 15 -> kernel.rule(13, a, 64 * b + number());
            case 16 -> kernel.terms() + kernel.theorems();
            default -> kernel.rule(random.nextInt(14), a, b);
        };
    }

    private static boolean isPossible(long answer) {
        return answer >= ProofKernel.ROOM && answer < 1L << 60;
    }

    private int number() {
        if (random.nextInt(100) < wildShare) {
            return random.nextBoolean() ? EDGES[random.nextInt(EDGES.length)] : random.nextInt();
        }
        int there = random.nextBoolean() ? kernel.theorems() : kernel.terms();
        return random.nextInt(Math.max(there, 4));
    }
}
