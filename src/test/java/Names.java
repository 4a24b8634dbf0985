/** The document's names for answers and rules, and the ends of int. */
interface Names {
    int NONE = ProofKernel.NONE;
    int KIND = ProofKernel.KIND;
    int BOUND = ProofKernel.BOUND;
    int ROOM = ProofKernel.ROOM;

    int MOST = Integer.MAX_VALUE;
    int LEAST = Integer.MIN_VALUE;

    int AXIOM = 0;
    int ASSUME = 1;
    int DISCHARGE = 2;
    int DETACH = 3;
    int GENERAL = 4;
    int SPECIAL = 5;
    int REFLECT = 6;
    int TURN = 7;
    int CHAIN = 8;
    int APPLY = 9;
    int ABSTRACT = 10;
    int BETA = 11;
    int REPLACE = 12;
    int SUBSTITUTE = 13;
}
