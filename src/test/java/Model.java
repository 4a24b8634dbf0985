import java.math.BigInteger;
import java.util.ArrayList;
import java.util.List;
import java.util.TreeSet;

/**
 * The document once more, written as unlike the program as can be: terms are trees, bound variables
 * keep their names, and substitution renames them. It is slow and made to be compared with.
 */
final class Model {
    static final int NONE = -1;
    static final int KIND = -2;
    static final int BOUND = -3;
    static final int ROOM = -4;

    private static final BigInteger MOST_STEPS = BigInteger.valueOf(1000000);

    /** A variable (v), constant (c), application (@), binder (/ or !), implication or equation. */
    private record Term(char kind, int name, int type, Term left, Term right) {
        boolean binds() {
            return kind == '/' || kind == '!';
        }

        boolean isVariable(Term v) {
            return kind == 'v' && name == v.name && type == v.type;
        }
    }

    private record Theorem(int rule, List<Integer> of, TreeSet<Integer> hypotheses, int conclusion) {
    }

    /** A call that is refused. */
    private static final class Refusal extends RuntimeException {
        private static final long serialVersionUID = 1L;
        final int answer;

        Refusal(int answer) {
            super(null, null, false, false);
            this.answer = answer;
        }
    }

    private List<int[]> types = new ArrayList<>();
    private List<Term> terms = new ArrayList<>();
    private List<Theorem> theorems = new ArrayList<>();
    private int fresh = 100;

    Model() {
        for (int type = 0; type < 3; type++) {
            types.add(null);
        }
    }

    // ---- the face

    int arrow(int from, int to) {
        if (!isType(from) || !isType(to)) {
            return NONE;
        }
        try {
            return arrowType(from, to);
        } catch (Refusal refusal) {
            return refusal.answer;
        }
    }

    int variable(int name, int type) {
        if (name < 0 || name > 9 || !isType(type)) {
            return NONE;
        }
        return keepOrRefuse(new Term('v', name, type, null, null));
    }

    int constant(int n, int type) {
        if (n < 0 || n > 3 || !isType(type)) {
            return NONE;
        }
        for (Term term : terms) {
            if (term.kind == 'c' && term.name == n && term.type != type) {
                return KIND;
            }
        }
        return keepOrRefuse(new Term('c', n, type, null, null));
    }

    int apply(int f, int a) {
        if (!isTerm(f) || !isTerm(a)) {
            return NONE;
        }
        if (!fits(terms.get(f), terms.get(a))) {
            return KIND;
        }
        return keepOrRefuse(new Term('@', 0, 0, terms.get(f), terms.get(a)));
    }

    int bind(boolean all, int v, int t) {
        if (!isTerm(v) || !isTerm(t)) {
            return NONE;
        }
        Term variable = terms.get(v);
        if (variable.kind != 'v' || (all && type(terms.get(t)) != 0)) {
            return KIND;
        }
        return keepOrRefuse(binder(all ? '!' : '/', variable, terms.get(t)));
    }

    int join(boolean equal, int a, int b) {
        if (!isTerm(a) || !isTerm(b)) {
            return NONE;
        }
        int left = type(terms.get(a));
        int right = type(terms.get(b));
        if (equal ? left != right : left != 0 || right != 0) {
            return KIND;
        }
        return keepOrRefuse(joint(equal ? '=' : '>', terms.get(a), terms.get(b)));
    }

    int rule(int rule, int x, int y) {
        int refusal = refusal(rule, x, y);
        if (refusal != 0) {
            return refusal;
        }
        if (theorems.size() == 40) {
            return ROOM;
        }
        List<int[]> typesBefore = new ArrayList<>(types);
        List<Term> termsBefore = new ArrayList<>(terms);
        try {
            TreeSet<Integer> hypotheses = hypothesesMade(rule, x, y);
            int conclusion = keep(conclusionMade(rule, x, y));
            theorems.add(new Theorem(rule, named(rule, x, y), hypotheses, conclusion));
            return theorems.size() - 1;
        } catch (Refusal late) {
            types = typesBefore;
            terms = termsBefore;
            return late.answer;
        }
    }

    int terms() {
        return terms.size();
    }

    int theorems() {
        return theorems.size();
    }

    int types() {
        return types.size();
    }

    int typeOf(int t) {
        return isTerm(t) ? type(terms.get(t)) : NONE;
    }

    int size(int t) {
        return isTerm(t) ? size(terms.get(t)) : NONE;
    }

    boolean free(int v, int t) {
        return isTerm(v) && isTerm(t) && terms.get(v).kind == 'v'
                && isFree(terms.get(v), terms.get(t));
    }

    String text(int t) {
        return isTerm(t) ? text(terms.get(t), List.of()) : "";
    }

    int conclusion(int k) {
        return isTheorem(k) ? theorems.get(k).conclusion : NONE;
    }

    long hypotheses(int k) {
        return isTheorem(k) ? bits(theorems.get(k).hypotheses) : NONE;
    }

    long axioms(int k) {
        if (!isTheorem(k)) {
            return NONE;
        }
        TreeSet<Integer> found = new TreeSet<>();
        TreeSet<Integer> reached = new TreeSet<>(List.of(k));
        while (!reached.isEmpty()) {
            int last = reached.pollLast();
            if (theorems.get(last).rule == 0) {
                found.add(last);
            }
            reached.addAll(theorems.get(last).of);
        }
        return bits(found);
    }

    int steps(int k) {
        if (!isTheorem(k)) {
            return NONE;
        }
        List<BigInteger> steps = new ArrayList<>();
        for (int j = 0; j <= k; j++) {
            BigInteger sum = BigInteger.ONE;
            for (int of : theorems.get(j).of) {
                sum = sum.add(steps.get(of));
            }
            steps.add(sum);
        }
        return steps.get(k).min(MOST_STEPS).intValue();
    }

    boolean applies(int f, int a) {
        return isTerm(f) && isTerm(a) && fits(terms.get(f), terms.get(a));
    }

    /** Why a rule cannot be used, the lack of room apart; 0 if it can. */
    int refusal(int rule, int x, int y) {
        switch (rule) {
            case 0, 1 -> {
                return !isTerm(x) ? NONE : type(terms.get(x)) != 0 ? KIND : 0;
            }
            case 2 -> {
                return !isTheorem(x) || !isTerm(y) ? NONE : type(terms.get(y)) != 0 ? KIND : 0;
            }
            case 3, 8, 9, 12 -> {
                return !isTheorem(x) || !isTheorem(y) ? NONE
                        : fitTogether(rule, said(x), said(y)) ? 0 : KIND;
            }
            case 4, 10 -> {
                return !isTheorem(x) || !isTerm(y) ? NONE : refusalToBind(rule, x, terms.get(y));
            }
            case 5 -> {
                return !isTheorem(x) || !isTerm(y) ? NONE
                        : said(x).kind != '!' || said(x).type != type(terms.get(y)) ? KIND : 0;
            }
            case 6 -> {
                return isTerm(x) ? 0 : NONE;
            }
            case 7 -> {
                return !isTheorem(x) ? NONE : said(x).kind != '=' ? KIND : 0;
            }
            case 11 -> {
                return !isTerm(x) ? NONE : isRedex(terms.get(x)) ? 0 : KIND;
            }
            case 13 -> {
                int v = Math.floorDiv(y, 64);
                int s = Math.floorMod(y, 64);
                return !isTheorem(x) || !isTerm(v) || !isTerm(s) ? NONE
                        : terms.get(v).kind != 'v' || terms.get(v).type != type(terms.get(s)) ? KIND
                        : 0;
            }
            default -> {
                return NONE;
            }
        }
    }

    // ---- the rules

    private int refusalToBind(int rule, int x, Term v) {
        if (v.kind != 'v' || (rule == 10 && said(x).kind != '=')) {
            return KIND;
        }
        for (int hypothesis : theorems.get(x).hypotheses) {
            if (isFree(v, terms.get(hypothesis))) {
                return BOUND;
            }
        }
        return 0;
    }

    private boolean fitTogether(int rule, Term first, Term second) {
        if (rule == 3) {
            return first.kind == '>' && same(first.left, second);
        }
        if (first.kind != '=') {
            return false;
        }
        if (rule == 12) {
            return same(first.left, second);
        }
        if (second.kind != '=') {
            return false;
        }
        return rule == 8 ? same(first.right, second.left) : fits(first.left, second.left);
    }

    private static boolean isRedex(Term term) {
        return term.kind == '@' && term.left.kind == '/';
    }

    private TreeSet<Integer> hypothesesMade(int rule, int x, int y) {
        TreeSet<Integer> made = new TreeSet<>();
        for (int theorem : named(rule, x, y)) {
            made.addAll(theorems.get(theorem).hypotheses);
        }
        if (rule == 1) {
            made.add(x);
        }
        if (rule == 2) {
            made.remove(y);
        }
        if (rule != 13) {
            return made;
        }
        TreeSet<Integer> changed = new TreeSet<>();
        for (int hypothesis : made) {
            changed.add(keep(with(terms.get(hypothesis), terms.get(y / 64), terms.get(y % 64))));
        }
        return changed;
    }

    private Term conclusionMade(int rule, int x, int y) {
        boolean ofTerm = rule == 0 || rule == 1 || rule == 6 || rule == 11;
        Term first = ofTerm ? terms.get(x) : said(x);
        switch (rule) {
            case 0, 1 -> {
                return first;
            }
            case 2 -> {
                return joint('>', terms.get(y), first);
            }
            case 3, 12 -> {
                return first.right;
            }
            case 4 -> {
                return binder('!', terms.get(y), first);
            }
            case 5 -> {
                return with(first.left, bound(first), terms.get(y));
            }
            case 6 -> {
                return joint('=', first, first);
            }
            case 7 -> {
                return joint('=', first.right, first.left);
            }
            case 8 -> {
                return joint('=', first.left, said(y).right);
            }
            case 9 -> {
                return joint('=', new Term('@', 0, 0, first.left, said(y).left),
                        new Term('@', 0, 0, first.right, said(y).right));
            }
            case 10 -> {
                return joint('=', binder('/', terms.get(y), first.left),
                        binder('/', terms.get(y), first.right));
            }
            case 11 -> {
                return joint('=', first, with(first.left.left, bound(first.left), first.right));
            }
            default -> {
                return with(first, terms.get(y / 64), terms.get(y % 64));
            }
        }
    }

    private List<Integer> named(int rule, int x, int y) {
        return switch (rule) {
            case 3, 8, 9, 12 -> List.of(x, y);
            case 2, 4, 5, 7, 10, 13 -> List.of(x);
            default -> List.of();
        };
    }

    private Term said(int theorem) {
        return terms.get(theorems.get(theorem).conclusion);
    }

    // ---- terms

    private boolean isType(int type) {
        return type >= 0 && type < types.size();
    }

    private boolean isTerm(int term) {
        return term >= 0 && term < terms.size();
    }

    private boolean isTheorem(int theorem) {
        return theorem >= 0 && theorem < theorems.size();
    }

    private int arrowType(int from, int to) {
        for (int type = 3; type < types.size(); type++) {
            if (types.get(type)[0] == from && types.get(type)[1] == to) {
                return type;
            }
        }
        if (types.size() == 16) {
            throw new Refusal(ROOM);
        }
        types.add(new int[] {from, to});
        return types.size() - 1;
    }

    private boolean fits(Term f, Term a) {
        int type = type(f);
        return type > 2 && types.get(type)[0] == type(a);
    }

    private int type(Term term) {
        return switch (term.kind) {
            case 'v', 'c' -> term.type;
            case '@' -> types.get(type(term.left))[1];
            case '/' -> arrowType(term.type, type(term.left));
            default -> 0;
        };
    }

    private static int size(Term term) {
        return 1 + (term.left == null ? 0 : size(term.left))
                + (term.right == null ? 0 : size(term.right));
    }

    private static Term binder(char kind, Term v, Term body) {
        return new Term(kind, v.name, v.type, body, null);
    }

    private static Term joint(char kind, Term left, Term right) {
        return new Term(kind, 0, 0, left, right);
    }

    private static Term bound(Term binder) {
        return new Term('v', binder.name, binder.type, null, null);
    }

    private static boolean isFree(Term v, Term term) {
        if (term.kind == 'v') {
            return term.isVariable(v);
        }
        if (term.binds() && bound(term).isVariable(v)) {
            return false;
        }
        return term.left != null && isFree(v, term.left)
                || term.right != null && isFree(v, term.right);
    }

    private Term with(Term term, Term v, Term s) {
        if (term.kind == 'v') {
            return term.isVariable(v) ? s : term;
        }
        if (term.kind == 'c') {
            return term;
        }
        if (!term.binds()) {
            return new Term(term.kind, 0, 0, with(term.left, v, s), with(term.right, v, s));
        }
        if (bound(term).isVariable(v)) {
            return term;
        }
        if (!isFree(bound(term), s)) {
            return binder(term.kind, bound(term), with(term.left, v, s));
        }
        fresh++;
        Term renamed = new Term('v', fresh, term.type, null, null);
        return binder(term.kind, renamed, with(with(term.left, bound(term), renamed), v, s));
    }

    private boolean same(Term left, Term right) {
        return same(left, right, List.of(), List.of());
    }

    private boolean same(Term left, Term right, List<Term> leftBound, List<Term> rightBound) {
        if (left.kind != right.kind) {
            return false;
        }
        if (left.kind == 'v') {
            int at = leftBound.lastIndexOf(left);
            return at == rightBound.lastIndexOf(right) && (at >= 0 || left.isVariable(right));
        }
        if (left.kind == 'c') {
            return left.name == right.name;
        }
        if (!left.binds()) {
            return same(left.left, right.left, leftBound, rightBound)
                    && same(left.right, right.right, leftBound, rightBound);
        }
        return left.type == right.type && same(left.left, right.left,
                longer(leftBound, bound(left)), longer(rightBound, bound(right)));
    }

    private static List<Term> longer(List<Term> list, Term last) {
        List<Term> longer = new ArrayList<>(list);
        longer.add(last);
        return longer;
    }

    private static String text(Term term, List<Term> around) {
        switch (term.kind) {
            case 'v' -> {
                int at = around.lastIndexOf(term);
                return at >= 0 ? String.valueOf((char) ('z' - (around.size() - 1 - at)))
                        : String.valueOf((char) ('a' + term.name)) + (char) ('A' + term.type);
            }
            case 'c' -> {
                return String.valueOf(term.name);
            }
            case '/', '!' -> {
                return String.valueOf(term.kind) + (char) ('A' + term.type)
                        + text(term.left, longer(around, bound(term)));
            }
            default -> {
                return term.kind + text(term.left, around) + text(term.right, around);
            }
        }
    }

    private static long bits(TreeSet<Integer> set) {
        long bits = 0;
        for (int member : set) {
            bits |= 1L << member;
        }
        return bits;
    }

    /** Keeps a term with the type that it needs; refuses it where there is no room. */
    private int keep(Term term) {
        if (size(term) > 30) {
            throw new Refusal(ROOM);
        }
        for (int t = 0; t < terms.size(); t++) {
            if (same(terms.get(t), term)) {
                return t;
            }
        }
        if (terms.size() == 60) {
            throw new Refusal(ROOM);
        }
        makeTypes(term);
        terms.add(term);
        return terms.size() - 1;
    }

    private void makeTypes(Term term) {
        if (term.left != null) {
            makeTypes(term.left);
        }
        if (term.right != null) {
            makeTypes(term.right);
        }
        type(term);
    }

    private int keepOrRefuse(Term term) {
        try {
            return keep(term);
        } catch (Refusal refusal) {
            return refusal.answer;
        }
    }
}
