/** The example of README.md, line by line, with what its comments say. */
public final class ReadmeTest {
    public static void main(String[] args) {
        Due due = new Due("ReadmeTest");
        ProofKernel kernel = new ProofKernel();
        int arrow = kernel.arrow(1, 0);
        int x = kernel.variable(0, 1);
        int y = kernel.variable(1, 1);
        int p = kernel.variable(2, arrow);
        int px = kernel.apply(p, x);
        int all = kernel.bind(true, x, px);
        due.is("the quantification", Due.text(kernel, all), "!B@cDz");

        int assumed = kernel.rule(1, all, 0);
        due.is("conclusion of ASSUME", kernel.conclusion(assumed), all);
        due.is("hypotheses of ASSUME", kernel.hypotheses(assumed), 1L << all);
        int special = kernel.rule(5, assumed, y);
        due.is("conclusion of SPECIAL", Due.text(kernel, kernel.conclusion(special)), "@cDbB");
        due.is("hypotheses of SPECIAL", kernel.hypotheses(special), 1L << all);
        int proved = kernel.rule(2, special, all);
        due.is("conclusion of DISCHARGE", Due.text(kernel, kernel.conclusion(proved)),
                ">!B@cDz@cDbB");
        due.is("hypotheses of DISCHARGE", kernel.hypotheses(proved), 0);
        due.is("steps", kernel.steps(proved), 3);

        due.is("apply(x, p)", kernel.apply(x, p), ProofKernel.KIND);
        due.end();
    }
}
