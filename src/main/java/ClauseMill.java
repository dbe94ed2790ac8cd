/**
 * Sets of clauses over ten variables, made smaller step by step so that they can be satisfied
 * just when they could before; what is taken out is kept on a stack for extend().
 *
 * A set of literals is one int everywhere in here, in the form that clause(k) answers:
 * bit v for v, bit 16 + v for -v.
 */
public final class ClauseMill {
    public static final int NONE = -1;

    private static final int VARIABLES = 10;
    private static final int ALL_VARIABLES = 0x7FE;
    private static final int NEGATIVE_SHIFT = 16;

    private static final int MOST_CLAUSES = 40;
    private static final int MOST_ENTRIES = 200;
    private static final int MOST_GIVEN = 100;

    private static final int UNIT = 0;
    private static final int SUBSUMPTION = 1;
    private static final int STRENGTHENING = 2;
    private static final int BLOCKED = 3;

    // Each turn of a step takes out a literal or a clause, so 440 turns are never passed.
    private static final int MOST_TURNS = 1_000_000;

    private int draft;
    private int truth;

    // The clauses that are there, by growing numbers.
    private final int[] sets;
    private final int[] numbers;
    private int count;
    private int nextNumber;

    private final int[] entrySets;
    private final int[] entryLiterals;
    private int height;

    private final int[] given;
    private int givenCount;

    private final int[] resolvents;

    public ClauseMill() {
        sets = new int[MOST_CLAUSES];
        numbers = new int[MOST_CLAUSES];
        entrySets = new int[MOST_ENTRIES];
        entryLiterals = new int[MOST_ENTRIES];
        given = new int[MOST_GIVEN];
        resolvents = new int[MOST_CLAUSES];
    }

    // ---- giving clauses

    public int literal(int l) throws IllegalArgumentException {
        if (!isLiteral(l)) {
            throw new IllegalArgumentException("no literal");
        }
        draft |= l > 0 ? positive(l) : negative(-l);
        return Integer.bitCount(draft);
    }

    public int close() throws IllegalStateException {
        int set = draft;
        boolean isMade = canBeMade(set);
        // The draft is empty then in any case, so also where this throws; nothing else changes there.
        draft = 0;
        if (isMade && count >= MOST_CLAUSES) {
            throw new IllegalStateException("40 clauses are there");
        }
        remember(set);
        return isMade ? make(set) : NONE;
    }

    private void remember(int set) {
        if (!isTautology(set) && givenCount < MOST_GIVEN) {
            given[givenCount] = set;
            givenCount++;
        }
    }

    // ---- making the set smaller

    public int step(int step) throws IllegalArgumentException, IllegalStateException {
        if (step < UNIT || step > BLOCKED) {
            throw new IllegalArgumentException("no such step");
        }
        int done = 0;
        while (done < MOST_TURNS && doOnce(step)) {
            done++;
        }
        return done;
    }

    private boolean doOnce(int step) {
        switch (step) {
            case UNIT:
                return propagateUnit();
            case SUBSUMPTION:
                return dropSubsumed();
            case STRENGTHENING:
                return strengthen();
            default:
                return dropBlocked();
        }
    }

    private boolean propagateUnit() {
        for (int k = 0; k < count; k++) {
            int unit = sets[k];
            if (isSingle(unit)) {
                push(unit, unit);
                removeAllWith(unit);
                takeFromAll(contrary(unit));
                return true;
            }
        }
        return false;
    }

    private boolean dropSubsumed() {
        for (int c = 0; c < count; c++) {
            if (isSubsumed(c)) {
                remove(c);
                return true;
            }
        }
        return false;
    }

    private boolean isSubsumed(int c) {
        for (int d = 0; d < count; d++) {
            if (d != c && (sets[d] & ~sets[c]) == 0) {
                return true;
            }
        }
        return false;
    }

    private boolean strengthen() {
        for (int c = 0; c < count; c++) {
            for (int d = 0; d < count; d++) {
                int literal = strengthenedLiteral(sets[c], sets[d]);
                if (literal != 0) {
                    takeLiteral(c, literal);
                    return true;
                }
            }
        }
        return false;
    }

    /**
     * The literal that d takes from c, or 0. No two variables can do, as c is no tautology:
     * the one literal that d has and c has not must be the contrary one.
     */
    private static int strengthenedLiteral(int c, int d) {
        int missing = d & ~c;
        return isSingle(missing) ? contrary(missing) & c : 0;
    }

    private boolean dropBlocked() {
        for (int c = 0; c < count; c++) {
            int set = sets[c];
            int literal = blockedLiteral(set);
            if (literal != 0) {
                push(set, literal);
                remove(c);
                return true;
            }
        }
        return false;
    }

    private int blockedLiteral(int set) {
        for (int v = 1; v <= VARIABLES; v++) {
            int literal = set & bothLiterals(v);
            if (literal != 0 && isBlocked(set, literal)) {
                return literal;
            }
        }
        return 0;
    }

    private boolean isBlocked(int set, int literal) {
        int contrary = contrary(literal);
        for (int d = 0; d < count; d++) {
            if ((sets[d] & contrary) != 0
                    && !isTautology(resolvent(set, sets[d], literal | contrary))) {
                return false;
            }
        }
        return true;
    }

    public int eliminate(int v) throws IllegalArgumentException, IllegalStateException {
        if (!isVariable(v)) {
            throw new IllegalArgumentException("no such variable");
        }
        int made = gatherResolvents(v);
        if (made == NONE) {
            return NONE;
        }
        if (height + countWith(positive(v)) + 1 > MOST_ENTRIES) {
            throw new IllegalStateException("the stack would have more than 200 entries");
        }
        pushAllWith(positive(v));
        push(negative(v), negative(v));
        // No resolvent has v or -v, so that the old clauses may go first and leave room.
        removeAllWith(bothLiterals(v));
        for (int i = 0; i < made; i++) {
            make(resolvents[i]);
        }
        return made;
    }

    /** How many resolvents would be made; NONE when they are more than the clauses that would go. */
    private int gatherResolvents(int v) {
        int most = countWith(bothLiterals(v));
        int made = 0;
        for (int c = 0; c < count; c++) {
            if ((sets[c] & positive(v)) != 0) {
                made = gatherResolventsOf(sets[c], v, made, most);
            }
            if (made == NONE) {
                return NONE;
            }
        }
        return made;
    }

    private int gatherResolventsOf(int set, int v, int madeBefore, int most) {
        int made = madeBefore;
        for (int d = 0; d < count; d++) {
            if ((sets[d] & negative(v)) == 0) {
                continue;
            }
            int resolvent = resolvent(set, sets[d], bothLiterals(v));
            if (!canBeMade(resolvent) || find(resolvents, made, resolvent) != NONE) {
                continue;
            }
            if (made >= most) {
                return NONE;
            }
            resolvents[made] = resolvent;
            made++;
        }
        return made;
    }

    // ---- the verdict

    public boolean satisfiable() {
        for (int tried = 0; tried <= ALL_VARIABLES; tried += positive(1)) {
            if (areAllTrue(trueLiterals(tried))) {
                return true;
            }
        }
        return false;
    }

    private boolean areAllTrue(int trueLiterals) {
        for (int k = 0; k < count; k++) {
            if ((sets[k] & trueLiterals) == 0) {
                return false;
            }
        }
        return true;
    }

    // ---- looking at clauses and entries

    public int clauses() {
        return count;
    }

    public int clause(int k) throws IndexOutOfBoundsException {
        if (k < 0 || k >= count) {
            throw new IndexOutOfBoundsException("no such clause");
        }
        return sets[k];
    }

    public int number(int k) throws IndexOutOfBoundsException {
        if (k < 0 || k >= count) {
            throw new IndexOutOfBoundsException("no such clause");
        }
        return numbers[k];
    }

    public int entries() {
        return height;
    }

    public int entry(int k) throws IndexOutOfBoundsException {
        if (k < 0 || k >= height) {
            throw new IndexOutOfBoundsException("no such entry");
        }
        int bit = Integer.numberOfTrailingZeros(entryLiterals[k]);
        return bit > NEGATIVE_SHIFT ? NEGATIVE_SHIFT - bit : bit;
    }

    // ---- the assignment

    public boolean assign(int v, boolean is) throws IllegalArgumentException {
        if (!isVariable(v)) {
            throw new IllegalArgumentException("no such variable");
        }
        boolean was = (truth & positive(v)) != 0;
        makeTrue(is ? positive(v) : negative(v));
        return was;
    }

    public int failing() {
        return countFalse(sets, count);
    }

    public int extend() {
        int made = 0;
        for (int k = height - 1; k >= 0; k--) {
            if ((entrySets[k] & trueLiterals(truth)) == 0) {
                makeTrue(entryLiterals[k]);
                made++;
            }
        }
        return made;
    }

    public int assignment() {
        return truth;
    }

    public int unmet() {
        return countFalse(given, givenCount);
    }

    private void makeTrue(int literal) {
        truth |= literal & ALL_VARIABLES;
        truth &= ~(literal >>> NEGATIVE_SHIFT);
    }

    private int countFalse(int[] row, int size) {
        int trueLiterals = trueLiterals(truth);
        int found = 0;
        for (int k = 0; k < size; k++) {
            if ((row[k] & trueLiterals) == 0) {
                found++;
            }
        }
        return found;
    }

    // ---- the clauses that are there

    private boolean canBeMade(int set) {
        return !isTautology(set) && find(sets, count, set) == NONE;
    }

    /** The caller has seen that the set can be made and that there is room. */
    private int make(int set) {
        int number = nextNumber;
        sets[count] = set;
        numbers[count] = number;
        count++;
        nextNumber++;
        return number;
    }

    private void remove(int k) {
        count--;
        for (int i = k; i < count; i++) {
            sets[i] = sets[i + 1];
            numbers[i] = numbers[i + 1];
        }
    }

    private void removeAllWith(int literals) {
        int kept = 0;
        for (int k = 0; k < count; k++) {
            if ((sets[k] & literals) == 0) {
                sets[kept] = sets[k];
                numbers[kept] = numbers[k];
                kept++;
            }
        }
        count = kept;
    }

    private int countWith(int literals) {
        int found = 0;
        for (int k = 0; k < count; k++) {
            if ((sets[k] & literals) != 0) {
                found++;
            }
        }
        return found;
    }

    private void takeFromAll(int literal) {
        // The search starts anew each time, as taking a literal may move the clauses behind.
        for (int turn = 0; turn < MOST_CLAUSES; turn++) {
            int k = firstWith(literal);
            if (k == NONE) {
                return;
            }
            takeLiteral(k, literal);
        }
    }

    private int firstWith(int literal) {
        for (int k = 0; k < count; k++) {
            if ((sets[k] & literal) != 0) {
                return k;
            }
        }
        return NONE;
    }

    private void takeLiteral(int k, int literal) {
        int set = sets[k] & ~literal;
        int same = find(sets, count, set);
        sets[k] = set;
        if (same != NONE) {
            remove(Math.max(k, same));
        }
    }

    private static int find(int[] row, int size, int set) {
        for (int k = 0; k < size; k++) {
            if (row[k] == set) {
                return k;
            }
        }
        return NONE;
    }

    // ---- the stack

    private void push(int set, int literal) {
        if (height >= MOST_ENTRIES) {
            throw new IllegalStateException("200 entries are there");
        }
        entrySets[height] = set;
        entryLiterals[height] = literal;
        height++;
    }

    private void pushAllWith(int literal) {
        for (int k = 0; k < count; k++) {
            if ((sets[k] & literal) != 0) {
                push(sets[k], literal);
            }
        }
    }

    // ---- literals and sets of them

    private static boolean isVariable(int v) {
        return v >= 1 && v <= VARIABLES;
    }

    private static boolean isLiteral(int l) {
        return l != 0 && l >= -VARIABLES && l <= VARIABLES;
    }

    private static int positive(int v) {
        return 1 << v;
    }

    private static int negative(int v) {
        return 1 << (NEGATIVE_SHIFT + v);
    }

    private static int bothLiterals(int v) {
        return positive(v) | negative(v);
    }

    private static int contrary(int literal) {
        return (literal << NEGATIVE_SHIFT) | (literal >>> NEGATIVE_SHIFT);
    }

    private static boolean isSingle(int set) {
        return Integer.bitCount(set) == 1;
    }

    private static boolean isTautology(int set) {
        return (set & (set >>> NEGATIVE_SHIFT)) != 0;
    }

    private static int resolvent(int c, int d, int without) {
        return (c | d) & ~without;
    }

    private static int trueLiterals(int trueVariables) {
        return trueVariables | ((ALL_VARIABLES & ~trueVariables) << NEGATIVE_SHIFT);
    }
}
