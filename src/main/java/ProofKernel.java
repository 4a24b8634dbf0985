/**
 * Typed terms with bound variables, and theorems, which are made by fourteen rules alone.
 *
 * <p>A term is held as a row of tokens: its head, then its parts, one behind the other. A bound
 * variable is held as the number of binders between it and its own, so that terms which are the
 * same are equal rows, and no name can be caught. A part of a kept term is told by the position of
 * its head. A theorem is held with the rule that made it and what that rule named. All rows are
 * made with the object: no call makes anything.
 */
public final class ProofKernel {
    public static final int NONE = -1;
    public static final int KIND = -2;
    public static final int BOUND = -3;
    public static final int ROOM = -4;

    private static final int PROP = 0;
    private static final int FIRST_TYPES = 3;
    private static final int MOST_TYPES = 16;
    private static final int NAMES = 10;
    private static final int CONSTANTS = 4;
    private static final int MOST_TERMS = 60;
    private static final int MOST_SIZE = 30;
    private static final int MOST_THEOREMS = 40;
    private static final int MOST_STEPS = 1000000;
    private static final int PAIR_BASE = 64;

    // What a token is: those without parts stand first, then the binders, then those of two parts.
    private static final int VARIABLE = 0;
    private static final int CONSTANT = 1;
    private static final int PLACE = 2;
    private static final int ABSTRACTION = 3;
    private static final int QUANTIFICATION = 4;
    private static final int APPLICATION = 5;
    private static final int IMPLICATION = 6;
    private static final int EQUATION = 7;

    private static final int AXIOM = 0;
    private static final int ASSUME = 1;
    private static final int DISCHARGE = 2;
    private static final int DETACH = 3;
    private static final int GENERAL = 4;
    private static final int SPECIAL = 5;
    private static final int REFLECT = 6;
    private static final int TURN = 7;
    private static final int CHAIN = 8;
    private static final int APPLY = 9;
    private static final int ABSTRACT = 10;
    private static final int BETA = 11;
    private static final int REPLACE = 12;
    private static final int SUBSTITUTE = 13;
    private static final int RULES = 14;

    // What a rule names by x and by y; a pair is a variable and a term in one number.
    private static final int NOTHING = 0;
    private static final int TERM = 1;
    private static final int THEOREM = 2;
    private static final int PAIR = 3;
    private static final int[] NAMED_BY_X = {
        TERM, TERM, THEOREM, THEOREM, THEOREM, THEOREM, TERM,
        THEOREM, THEOREM, THEOREM, THEOREM, TERM, THEOREM, THEOREM
    };
    private static final int[] NAMED_BY_Y = {
        NOTHING, NOTHING, TERM, THEOREM, TERM, TERM, NOTHING,
        NOTHING, THEOREM, THEOREM, TERM, NOTHING, THEOREM, PAIR
    };

    private final Types types;
    private final Shelf shelf;
    private final Draft draft;
    private final Book book;

    public ProofKernel() {
        types = new Types();
        shelf = new Shelf();
        draft = new Draft(shelf);
        book = new Book();
    }

    public int arrow(int from, int to) {
        if (!types.has(from) || !types.has(to)) {
            return NONE;
        }
        return types.numberOf(from, to);
    }

    public int variable(int name, int type) {
        if (name < 0 || name >= NAMES || !types.has(type)) {
            return NONE;
        }
        draft.clear();
        draft.add(Token.of(VARIABLE, name, type));
        return shelf.keep(draft);
    }

    public int constant(int n, int type) {
        if (n < 0 || n >= CONSTANTS || !types.has(type)) {
            return NONE;
        }
        int declared = declaredType(n);
        if (declared != NONE && declared != type) {
            return KIND;
        }
        draft.clear();
        draft.add(Token.of(CONSTANT, n, type));
        return shelf.keep(draft);
    }

    public int apply(int f, int a) {
        if (!shelf.has(f) || !shelf.has(a)) {
            return NONE;
        }
        if (!types.takes(typeAt(shelf.start(f)), typeAt(shelf.start(a)))) {
            return KIND;
        }
        draft.clear();
        draftApplication(shelf.start(f), shelf.start(a));
        return shelf.keep(draft);
    }

    public int bind(boolean all, int v, int t) {
        if (!shelf.has(v) || !shelf.has(t)) {
            return NONE;
        }
        int variable = shelf.start(v);
        int body = shelf.start(t);
        if (!isA(VARIABLE, variable) || (all && typeAt(body) != PROP)) {
            return KIND;
        }
        int typesBefore = types.count();
        draft.clear();
        if (all) {
            draft.addBinder(QUANTIFICATION, PROP, shelf.token(variable), body);
        } else {
            draftAbstraction(variable, body);
        }
        int answer = shelf.keep(draft);
        if (answer == ROOM) {
            types.cutTo(typesBefore);
        }
        return answer;
    }

    public int join(boolean equal, int a, int b) {
        if (!shelf.has(a) || !shelf.has(b)) {
            return NONE;
        }
        int left = shelf.start(a);
        int right = shelf.start(b);
        if (typeAt(left) != typeAt(right) || (!equal && typeAt(left) != PROP)) {
            return KIND;
        }
        draft.clear();
        draftJoint(equal ? EQUATION : IMPLICATION, left, right);
        return shelf.keep(draft);
    }

    public int rule(int rule, int x, int y) {
        if (rule < 0 || rule >= RULES) {
            return NONE;
        }
        if (!isThere(NAMED_BY_X[rule], x) || !isThere(NAMED_BY_Y[rule], y)) {
            return NONE;
        }
        if (!isAsTheRuleSays(rule, x, y)) {
            return KIND;
        }
        if (bindsWhatIsAssumed(rule, x, y)) {
            return BOUND;
        }
        if (book.isFull()) {
            return ROOM;
        }
        return derive(rule, x, y);
    }

    public int terms() {
        return shelf.count();
    }

    public int theorems() {
        return book.count();
    }

    public int typeOf(int t) {
        return shelf.has(t) ? typeAt(shelf.start(t)) : NONE;
    }

    public int size(int t) {
        return shelf.has(t) ? shelf.length(t) : NONE;
    }

    public boolean free(int v, int t) {
        if (!shelf.has(v) || !shelf.has(t) || !isA(VARIABLE, shelf.start(v))) {
            return false;
        }
        return shelf.holds(t, shelf.token(shelf.start(v)));
    }

    public int printed(int t, int i) {
        if (!shelf.has(t)) {
            return NONE;
        }
        int end = shelf.start(t) + shelf.length(t);
        int length = 0;
        for (int at = shelf.start(t); at < end; at++) {
            int token = shelf.token(at);
            if (i == length) {
                return Token.letter(token);
            }
            length++;
            if (Token.showsType(token)) {
                if (i == length) {
                    return Token.typeLetter(token);
                }
                length++;
            }
        }
        return i == -1 ? length : NONE;
    }

    public int conclusion(int k) {
        return book.has(k) ? book.conclusionOf(k) : NONE;
    }

    public long hypotheses(int k) {
        return book.has(k) ? book.hypothesesOf(k) : NONE;
    }

    public long axioms(int k) {
        return book.has(k) ? book.axiomsOf(k) : NONE;
    }

    public int steps(int k) {
        return book.has(k) ? book.stepsOf(k) : NONE;
    }

    private int typeAt(int start) {
        return Token.type(shelf.token(start));
    }

    private boolean isA(int tag, int start) {
        return Token.tag(shelf.token(start)) == tag;
    }

    // A constant is declared by the call that keeps its term, and no term ever goes: so the kept
    // terms tell the declaration, and a call without room cannot leave one behind.
    private int declaredType(int n) {
        for (int t = 0; t < shelf.count(); t++) {
            int token = shelf.token(shelf.start(t));
            if (Token.tag(token) == CONSTANT && Token.info(token) == n) {
                return Token.type(token);
            }
        }
        return NONE;
    }

    private void draftApplication(int f, int a) {
        draft.add(Token.of(APPLICATION, 0, types.result(typeAt(f))));
        draft.addPart(f);
        draft.addPart(a);
    }

    // Without room for its type the abstraction cannot be: the draft is spoilt, and so refused
    // where it would be kept. The caller takes back a type that came for a refused draft.
    private void draftAbstraction(int variable, int body) {
        int type = types.numberOf(typeAt(variable), typeAt(body));
        if (type == ROOM) {
            draft.spoil();
        } else {
            draft.addBinder(ABSTRACTION, type, shelf.token(variable), body);
        }
    }

    private void draftJoint(int tag, int left, int right) {
        draft.add(Token.of(tag, 0, PROP));
        draft.addPart(left);
        draft.addPart(right);
    }

    private boolean isThere(int named, int number) {
        switch (named) {
            case TERM:
                return shelf.has(number);
            case THEOREM:
                return book.has(number);
            case PAIR:
                return number >= 0 && shelf.has(number / PAIR_BASE) && shelf.has(number % PAIR_BASE);
            default:
                return true;
        }
    }

    /** Where the term begins that is named, the conclusion of a theorem, or a pair's variable. */
    private int startOf(int named, int number) {
        switch (named) {
            case TERM:
                return shelf.start(number);
            case THEOREM:
                return shelf.start(book.conclusionOf(number));
            case PAIR:
                return shelf.start(number / PAIR_BASE);
            default:
                return 0;
        }
    }

    private boolean isAsTheRuleSays(int rule, int x, int y) {
        int a = startOf(NAMED_BY_X[rule], x);
        int b = startOf(NAMED_BY_Y[rule], y);
        switch (rule) {
            case AXIOM:
            case ASSUME:
                return typeAt(a) == PROP;
            case DISCHARGE:
                return typeAt(b) == PROP;
            case DETACH:
                return isA(IMPLICATION, a) && shelf.same(shelf.firstPart(a), b);
            case GENERAL:
                return isA(VARIABLE, b);
            case SPECIAL:
                return isA(QUANTIFICATION, a) && Token.info(shelf.token(a)) == typeAt(b);
            case TURN:
                return isA(EQUATION, a);
            case CHAIN:
                return isA(EQUATION, a) && isA(EQUATION, b)
                        && shelf.same(shelf.secondPart(a), shelf.firstPart(b));
            case APPLY:
                return isA(EQUATION, a) && isA(EQUATION, b)
                        && types.takes(typeAt(shelf.firstPart(a)), typeAt(shelf.firstPart(b)));
            case ABSTRACT:
                return isA(EQUATION, a) && isA(VARIABLE, b);
            case BETA:
                return isA(APPLICATION, a) && isA(ABSTRACTION, shelf.firstPart(a));
            case REPLACE:
                return isA(EQUATION, a) && shelf.same(shelf.firstPart(a), b);
            case SUBSTITUTE:
                return isA(VARIABLE, b) && typeAt(b) == typeAt(shelf.start(y % PAIR_BASE));
            default:
                return true;
        }
    }

    private boolean bindsWhatIsAssumed(int rule, int x, int y) {
        if (rule != GENERAL && rule != ABSTRACT) {
            return false;
        }
        int variable = shelf.token(shelf.start(y));
        for (int t = 0; t < shelf.count(); t++) {
            if (isIn(book.hypothesesOf(x), t) && shelf.holds(t, variable)) {
                return true;
            }
        }
        return false;
    }

    // Terms and types are only ever added at the end, so what a refused rule has kept on its way
    // is taken back by their counts.
    private int derive(int rule, int x, int y) {
        int termsBefore = shelf.count();
        int typesBefore = types.count();
        long hypotheses = rule == SUBSTITUTE
                ? substitutedHypotheses(x, y)
                : joinedHypotheses(rule, x, y);
        int conclusion = ROOM;
        if (hypotheses != ROOM) {
            draft.clear();
            draftConclusion(rule, x, y);
            conclusion = shelf.keep(draft);
        }
        if (conclusion == ROOM) {
            shelf.cutTo(termsBefore);
            types.cutTo(typesBefore);
            return ROOM;
        }
        return book.add(rule, x, y, hypotheses, conclusion);
    }

    private long joinedHypotheses(int rule, int x, int y) {
        long joined = 0;
        if (NAMED_BY_X[rule] == THEOREM) {
            joined |= book.hypothesesOf(x);
        }
        if (NAMED_BY_Y[rule] == THEOREM) {
            joined |= book.hypothesesOf(y);
        }
        if (rule == ASSUME) {
            joined |= 1L << x;
        }
        if (rule == DISCHARGE) {
            joined &= ~(1L << y);
        }
        return joined;
    }

    // A set of terms is never negative, as 60 bits hold it: so ROOM can be told from it.
    private long substitutedHypotheses(int x, int y) {
        long before = book.hypothesesOf(x);
        long made = 0;
        for (int t = 0; t < MOST_TERMS; t++) {
            if (isIn(before, t)) {
                draft.clear();
                draftSubstituted(shelf.start(t), y);
                int kept = shelf.keep(draft);
                if (kept == ROOM) {
                    return ROOM;
                }
                made |= 1L << kept;
            }
        }
        return made;
    }

    private void draftSubstituted(int start, int pair) {
        int variable = shelf.token(shelf.start(pair / PAIR_BASE));
        draft.addReplacing(start, variable, shelf.start(pair % PAIR_BASE));
    }

    private void draftConclusion(int rule, int x, int y) {
        int a = startOf(NAMED_BY_X[rule], x);
        int b = startOf(NAMED_BY_Y[rule], y);
        switch (rule) {
            case DISCHARGE:
                draftJoint(IMPLICATION, b, a);
                break;
            case DETACH:
            case REPLACE:
                draft.addPart(shelf.secondPart(a));
                break;
            case GENERAL:
                draft.addBinder(QUANTIFICATION, PROP, shelf.token(b), a);
                break;
            case SPECIAL:
                draft.addFilling(shelf.firstPart(a), b);
                break;
            case REFLECT:
                draftJoint(EQUATION, a, a);
                break;
            case TURN:
                draftJoint(EQUATION, shelf.secondPart(a), shelf.firstPart(a));
                break;
            case CHAIN:
                draftJoint(EQUATION, shelf.firstPart(a), shelf.secondPart(b));
                break;
            case APPLY:
                draft.add(Token.of(EQUATION, 0, PROP));
                draftApplication(shelf.firstPart(a), shelf.firstPart(b));
                draftApplication(shelf.secondPart(a), shelf.secondPart(b));
                break;
            case ABSTRACT:
                draft.add(Token.of(EQUATION, 0, PROP));
                draftAbstraction(b, shelf.firstPart(a));
                draftAbstraction(b, shelf.secondPart(a));
                break;
            case BETA:
                draft.add(Token.of(EQUATION, 0, PROP));
                draft.addPart(a);
                draft.addFilling(shelf.firstPart(shelf.firstPart(a)), shelf.secondPart(a));
                break;
            case SUBSTITUTE:
                draftSubstituted(a, y);
                break;
            default:
                draft.addPart(a);
                break;
        }
    }

    private static boolean isIn(long set, int member) {
        return (set >> member & 1L) != 0;
    }

    /**
     * A token is one number: what it is, its info (a variable's name, a constant's number, how many
     * binders stand between a bound variable and its own, or the type that a binder binds), and the
     * type of the term that it heads.
     */
    private static final class Token {
        private static final int TAG_SHIFT = 9;
        private static final int INFO_SHIFT = 4;
        private static final int INFO_MASK = 31;
        private static final int TYPE_MASK = 15;

        static int of(int tag, int info, int type) {
            return tag << TAG_SHIFT | info << INFO_SHIFT | type;
        }

        static int tag(int token) {
            return token >> TAG_SHIFT;
        }

        static int info(int token) {
            return token >> INFO_SHIFT & INFO_MASK;
        }

        static int type(int token) {
            return token & TYPE_MASK;
        }

        static boolean binds(int token) {
            int tag = token >> TAG_SHIFT;
            return tag == ABSTRACTION || tag == QUANTIFICATION;
        }

        static int parts(int token) {
            int tag = token >> TAG_SHIFT;
            if (tag < ABSTRACTION) {
                return 0;
            }
            return tag < APPLICATION ? 1 : 2;
        }

        static int letter(int token) {
            switch (tag(token)) {
                case VARIABLE:
                    return 'a' + info(token);
                case CONSTANT:
                    return '0' + info(token);
                case PLACE:
                    return 'z' - info(token);
                case ABSTRACTION:
                    return '/';
                case QUANTIFICATION:
                    return '!';
                case APPLICATION:
                    return '@';
                case IMPLICATION:
                    return '>';
                default:
                    return '=';
            }
        }

        static boolean showsType(int token) {
            return tag(token) == VARIABLE || binds(token);
        }

        static int typeLetter(int token) {
            return 'A' + (binds(token) ? info(token) : type(token));
        }
    }

    /** The types: for each its two sides, NONE for those that are no arrow. */
    private static final class Types {
        private final int[] from = new int[MOST_TYPES];
        private final int[] to = new int[MOST_TYPES];
        private int count = FIRST_TYPES;

        Types() {
            for (int type = 0; type < FIRST_TYPES; type++) {
                from[type] = NONE;
                to[type] = NONE;
            }
        }

        int count() {
            return count;
        }

        boolean has(int type) {
            return type >= 0 && type < count;
        }

        boolean takes(int function, int argument) {
            return from[function] == argument;
        }

        int result(int function) {
            return to[function];
        }

        int numberOf(int left, int right) {
            for (int type = FIRST_TYPES; type < count; type++) {
                if (from[type] == left && to[type] == right) {
                    return type;
                }
            }
            if (count == MOST_TYPES) {
                return ROOM;
            }
            from[count] = left;
            to[count] = right;
            count++;
            return count - 1;
        }

        void cutTo(int before) {
            count = before;
        }
    }

    /** The kept terms; each begins at a place of its own, so that none moves another. */
    private static final class Shelf {
        private final int[] tokens = new int[MOST_TERMS * MOST_SIZE];
        private final int[] lengths = new int[MOST_TERMS];
        private int count;

        int count() {
            return count;
        }

        boolean has(int term) {
            return term >= 0 && term < count;
        }

        int start(int term) {
            return term * MOST_SIZE;
        }

        int length(int term) {
            return lengths[term];
        }

        int token(int at) {
            return at < tokens.length ? tokens[at] : 0;
        }

        int firstPart(int start) {
            return start + 1;
        }

        int secondPart(int start) {
            return behind(start + 1);
        }

        int behind(int start) {
            int at = start;
            int open = 1;
            while (open > 0 && at < tokens.length) {
                open += Token.parts(tokens[at]) - 1;
                at++;
            }
            return at;
        }

        // No row of a term is the beginning of another's, so the length of one part is enough.
        boolean same(int left, int right) {
            int length = behind(left) - left;
            for (int i = 0; i < length; i++) {
                if (token(left + i) != token(right + i)) {
                    return false;
                }
            }
            return true;
        }

        boolean holds(int term, int token) {
            int end = start(term) + lengths[term];
            for (int at = start(term); at < end; at++) {
                if (tokens[at] == token) {
                    return true;
                }
            }
            return false;
        }

        int keep(Draft draft) {
            if (draft.isTooLarge()) {
                return ROOM;
            }
            for (int term = 0; term < count; term++) {
                if (lengths[term] == draft.length() && draft.isAt(start(term))) {
                    return term;
                }
            }
            if (count == MOST_TERMS) {
                return ROOM;
            }
            draft.copyTo(tokens, start(count));
            lengths[count] = draft.length();
            count++;
            return count - 1;
        }

        void cutTo(int before) {
            count = before;
        }
    }

    /** The term that a call is about to make, written from parts of kept ones. */
    private static final class Draft {
        private final Shelf shelf;
        private final int[] row = new int[MOST_SIZE];
        private int length;
        // The depths of the parts that are still to come in a walk through a term: the next on top.
        private final int[] depths = new int[MOST_SIZE];
        private int waiting;

        Draft(Shelf source) {
            shelf = source;
        }

        void clear() {
            length = 0;
        }

        int length() {
            return length;
        }

        boolean isTooLarge() {
            return length > MOST_SIZE;
        }

        void spoil() {
            length = MOST_SIZE + 1;
        }

        void add(int token) {
            if (length < MOST_SIZE) {
                row[length] = token;
            }
            length++;
        }

        void addPart(int start) {
            int end = shelf.behind(start);
            for (int at = start; at < end; at++) {
                add(shelf.token(at));
            }
        }

        /** A binder of a free variable, and behind it the body with places for the variable. */
        void addBinder(int tag, int type, int variable, int body) {
            add(Token.of(tag, Token.type(variable), type));
            int end = shelf.behind(body);
            beginWalk();
            for (int at = body; at < end; at++) {
                int token = shelf.token(at);
                int depth = walkOver(token);
                add(token == variable ? Token.of(PLACE, depth, Token.type(variable)) : token);
            }
        }

        /** The body of a binder without the binder: its places are filled with another term. */
        void addFilling(int body, int filler) {
            int end = shelf.behind(body);
            beginWalk();
            for (int at = body; at < end; at++) {
                int token = shelf.token(at);
                int depth = walkOver(token);
                if (Token.tag(token) == PLACE && Token.info(token) == depth) {
                    addPart(filler);
                } else {
                    add(token);
                }
            }
        }

        void addReplacing(int start, int variable, int filler) {
            int end = shelf.behind(start);
            for (int at = start; at < end; at++) {
                if (shelf.token(at) == variable) {
                    addPart(filler);
                } else {
                    add(shelf.token(at));
                }
            }
        }

        boolean isAt(int start) {
            for (int i = 0; i < length; i++) {
                if (row[i] != shelf.token(start + i)) {
                    return false;
                }
            }
            return true;
        }

        void copyTo(int[] tokens, int start) {
            System.arraycopy(row, 0, tokens, start, length);
        }

        private void beginWalk() {
            depths[0] = 0;
            waiting = 1;
        }

        /** How many binders of the walked term stand around this token. */
        private int walkOver(int token) {
            if (waiting > 0) {
                waiting--;
            }
            int depth = depths[waiting];
            int inside = Token.binds(token) ? depth + 1 : depth;
            for (int part = 0; part < Token.parts(token) && waiting < MOST_SIZE; part++) {
                depths[waiting] = inside;
                waiting++;
            }
            return depth;
        }
    }

    /** The theorems: what each says, by which rule it was made, and what that rule named. */
    private static final class Book {
        private final long[] assumed = new long[MOST_THEOREMS];
        private final int[] conclusions = new int[MOST_THEOREMS];
        private final int[] rules = new int[MOST_THEOREMS];
        private final int[] namedByX = new int[MOST_THEOREMS];
        private final int[] namedByY = new int[MOST_THEOREMS];
        private int count;
        // Written anew by each question for steps.
        private final int[] stepsUpTo = new int[MOST_THEOREMS];

        int count() {
            return count;
        }

        boolean has(int theorem) {
            return theorem >= 0 && theorem < count;
        }

        boolean isFull() {
            return count == MOST_THEOREMS;
        }

        long hypothesesOf(int theorem) {
            return assumed[theorem];
        }

        int conclusionOf(int theorem) {
            return conclusions[theorem];
        }

        // A rule names theorems that were there before it: so one way back from a theorem meets
        // all of its proof, and one way forth counts each theorem behind those that it names.
        long axiomsOf(int theorem) {
            long met = 1L << theorem;
            long axioms = 0;
            for (int k = theorem; k >= 0; k--) {
                if (isIn(met, k)) {
                    met |= setOf(firstPremise(k)) | setOf(secondPremise(k));
                    if (rules[k] == AXIOM) {
                        axioms |= 1L << k;
                    }
                }
            }
            return axioms;
        }

        int stepsOf(int theorem) {
            for (int k = 0; k <= theorem; k++) {
                int steps = 1 + stepsBefore(firstPremise(k)) + stepsBefore(secondPremise(k));
                stepsUpTo[k] = Math.min(steps, MOST_STEPS);
            }
            return stepsUpTo[theorem];
        }

        int add(int rule, int x, int y, long hypotheses, int conclusion) {
            assumed[count] = hypotheses;
            conclusions[count] = conclusion;
            rules[count] = rule;
            namedByX[count] = x;
            namedByY[count] = y;
            count++;
            return count - 1;
        }

        private int firstPremise(int theorem) {
            return NAMED_BY_X[rules[theorem]] == THEOREM ? namedByX[theorem] : NONE;
        }

        private int secondPremise(int theorem) {
            return NAMED_BY_Y[rules[theorem]] == THEOREM ? namedByY[theorem] : NONE;
        }

        private int stepsBefore(int premise) {
            return premise == NONE ? 0 : stepsUpTo[premise];
        }

        private static long setOf(int premise) {
            return premise == NONE ? 0 : 1L << premise;
        }
    }
}
