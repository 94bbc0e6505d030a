/**
 * What values variables can have at each place of a program, exactly and in three coarser ways.
 *
 * <p>A place and a state together are called a SPOT and written as place * 512 + state; a pair of
 * variables or 0 is written, as in the document, as ab = a * 4 + b.
 */
public final class AbstractValues {
    public static final int BAD = -1000;
    public static final int FULL = -1001;
    public static final int INVALID = -1002;
    public static final int NONE = -1003;

    private static final int SET = 0;
    private static final int COPY = 1;
    private static final int ANY = 2;
    private static final int LESS = 3;
    private static final int JUMP = 4;
    private static final int FORK = 5;
    private static final int END = 6;

    private static final int EXACT_WAY = 0;
    private static final int SETS_WAY = 1;
    private static final int RANGES_WAY = 2;
    private static final int WAYS = 4;

    private static final int VARIABLES = 3;
    private static final int ZERO = 3;
    private static final int TOP_VALUE = 7;
    private static final int STATES = 512;
    private static final int PAIRS = 16;

    private static final int CAPACITY = 20;
    private static final int PLACES = CAPACITY + 1;
    private static final int SPOTS = PLACES * STATES;
    private static final int NO_SPOT = -1;
    private static final int ALL_FORMS = WAYS * SPOTS;
    private static final int ALL_VALUE_SETS = PLACES * VARIABLES;
    private static final int ALL_BOUNDS = PLACES * PAIRS;
    private static final int BELOW_ALL_DIFFERENCES = -8;
    private static final int NOT_REFUSED = 0;

    private final int[] ops = new int[CAPACITY];
    private final int[] firsts = new int[CAPACITY];
    private final int[] seconds = new int[CAPACITY];
    private final int[] thirds = new int[CAPACITY];
    private int statements = 0;

    /** 0: every question works its way's result out anew; 1: results are kept while they hold. */
    private int workLevel = 1;
    private final boolean[] isKept = new boolean[WAYS];
    private final boolean[] inForm = new boolean[ALL_FORMS];

    // The rest is used only while one result is worked out.
    private final int[] queue = new int[SPOTS];
    private int queued = 0;
    private final int[] valueSets = new int[ALL_VALUE_SETS];
    private final int[] bounds = new int[ALL_BOUNDS];

    public AbstractValues() {
    }

    public int emit(int op, int a, int b, int c) {
        if (statements >= CAPACITY) {
            return FULL;
        }
        if (!isStatement(op, a, b, c)) {
            return BAD;
        }
        store(statements, op, a, b, c);
        statements++;
        return statements;
    }

    public boolean replace(int i, int op, int ab, int c) {
        if (i < 0 || i >= statements || !isPair(ab)) {
            return false;
        }
        int a = ab / 4;
        int b = ab % 4;
        if (!isStatement(op, a, b, c)) {
            return false;
        }
        store(i, op, a, b, c);
        return true;
    }

    public int retract() {
        if (statements == 0) {
            return BAD;
        }
        statements--;
        dropResults();
        return statements;
    }

    public boolean valid() {
        for (int i = 0; i < statements; i++) {
            boolean names = ops[i] == JUMP || ops[i] == FORK;
            if (names && thirds[i] > statements) {
                return false;
            }
        }
        return true;
    }

    public int count(int way, int i) {
        int refusal = refusalOf(way, i);
        if (refusal != NOT_REFUSED) {
            return refusal;
        }
        workOut(way);
        return sizeOf(way, i);
    }

    public boolean has(int way, int i, int state) {
        if (state < 0 || state >= STATES || refusalOf(way, i) != NOT_REFUSED) {
            return false;
        }
        workOut(way);
        return inForm[way * SPOTS + i * STATES + state];
    }

    public int lowest(int way, int i, int v) {
        if (!isVariable(v)) {
            return BAD;
        }
        int greatest = greatestOf(way, i, ZERO * 4 + v);
        // The codes lie below every difference: one of them is answered as it is.
        return greatest <= BAD ? greatest : -greatest;
    }

    public int highest(int way, int i, int v) {
        return isVariable(v) ? greatestOf(way, i, v * 4 + ZERO) : BAD;
    }

    public int most(int way, int i, int ab) {
        return isPair(ab) ? greatestOf(way, i, ab) : BAD;
    }

    public boolean exact(int way, int i) {
        if (refusalOf(way, i) != NOT_REFUSED) {
            return false;
        }
        workOut(EXACT_WAY);
        workOut(way);
        int start = way * SPOTS + i * STATES;
        int exactStart = EXACT_WAY * SPOTS + i * STATES;
        for (int state = 0; state < STATES; state++) {
            if (inForm[start + state] != inForm[exactStart + state]) {
                return false;
            }
        }
        return true;
    }

    public int unreached(int way) {
        int refusal = refusalOf(way, 0);
        if (refusal != NOT_REFUSED) {
            return refusal;
        }
        workOut(way);
        int empty = 0;
        for (int place = 0; place <= statements; place++) {
            if (sizeOf(way, place) == 0) {
                empty++;
            }
        }
        return empty;
    }

    public boolean level(int k) {
        if (k < 0 || k > 1) {
            return false;
        }
        workLevel = k;
        return true;
    }

    private static boolean isStatement(int op, int a, int b, int c) {
        boolean isStep = c >= -TOP_VALUE && c <= TOP_VALUE;
        switch (op) {
            case SET:
                return isVariable(a) && c >= 0 && c <= TOP_VALUE;
            case COPY:
                return isVariable(a) && isVariableOrZero(b) && isStep;
            case ANY:
                return isVariable(a);
            case LESS:
                return isVariableOrZero(a) && isVariableOrZero(b) && a != b && isStep;
            case JUMP:
            case FORK:
                return c >= 0 && c <= CAPACITY;
            case END:
                return true;
            default:
                return false;
        }
    }

    private static boolean isVariable(int v) {
        return v >= 0 && v < VARIABLES;
    }

    private static boolean isVariableOrZero(int v) {
        return v >= 0 && v <= ZERO;
    }

    private static boolean isPair(int ab) {
        return ab >= 0 && ab < PAIRS;
    }

    private void store(int i, int op, int a, int b, int c) {
        ops[i] = op;
        firsts[i] = a;
        seconds[i] = b;
        thirds[i] = c;
        dropResults();
    }

    private void dropResults() {
        for (int way = 0; way < WAYS; way++) {
            isKept[way] = false;
        }
    }

    private int refusalOf(int way, int i) {
        if (way < 0 || way >= WAYS || i < 0 || i > statements) {
            return BAD;
        }
        return valid() ? NOT_REFUSED : INVALID;
    }

    private int sizeOf(int way, int place) {
        int start = way * SPOTS + place * STATES;
        int size = 0;
        for (int state = 0; state < STATES; state++) {
            if (inForm[start + state]) {
                size++;
            }
        }
        return size;
    }

    /** The greatest difference of a pair in the states of a form, or the code that refuses to tell. */
    private int greatestOf(int way, int i, int ab) {
        int refusal = refusalOf(way, i);
        if (refusal != NOT_REFUSED) {
            return refusal;
        }
        workOut(way);
        int start = way * SPOTS + i * STATES;
        int greatest = NONE;
        for (int state = 0; state < STATES; state++) {
            int found = value(state, ab / 4) - value(state, ab % 4);
            // NONE lies below every difference, so the first state in the form always replaces it.
            if (inForm[start + state] && found > greatest) {
                greatest = found;
            }
        }
        return greatest;
    }

    /**
     * Each spot enters the queue when it enters its form, so once: that bounds the loop, and when it
     * ends every state in every form has been followed.
     */
    private void workOut(int way) {
        if (workLevel == 1 && isKept[way]) {
            return;
        }
        clear(way);
        reach(way, 0);
        for (int head = 0; head < SPOTS && head < queued; head++) {
            int place = queue[head] / STATES;
            int state = queue[head] % STATES;
            int outcomes = place < statements ? outcomesOf(place) : 0;
            for (int k = 0; k < outcomes; k++) {
                int spot = outcome(place, state, k);
                if (spot != NO_SPOT) {
                    reach(way, spot);
                }
            }
        }
        isKept[way] = true;
    }

    private void clear(int way) {
        for (int spot = 0; spot < SPOTS; spot++) {
            inForm[way * SPOTS + spot] = false;
        }
        for (int i = 0; i < ALL_VALUE_SETS; i++) {
            valueSets[i] = 0;
        }
        for (int i = 0; i < ALL_BOUNDS; i++) {
            bounds[i] = BELOW_ALL_DIFFERENCES;
        }
        queued = 0;
    }

    private int outcomesOf(int place) {
        switch (ops[place]) {
            case ANY:
                return TOP_VALUE + 1;
            case FORK:
                return 2;
            case END:
                return 0;
            default:
                return 1;
        }
    }

    private int outcome(int place, int state, int k) {
        int a = firsts[place];
        int b = seconds[place];
        int c = thirds[place];
        int next = (place + 1) * STATES;
        switch (ops[place]) {
            case SET:
                return next + withValue(state, a, c);
            case COPY:
                int sum = value(state, b) + c;
                return sum >= 0 && sum <= TOP_VALUE ? next + withValue(state, a, sum) : NO_SPOT;
            case ANY:
                return next + withValue(state, a, k);
            case LESS:
                return value(state, a) <= value(state, b) + c ? next + state : NO_SPOT;
            case JUMP:
                return c * STATES + state;
            case FORK:
                return k == 0 ? next + state : c * STATES + state;
            default:
                return NO_SPOT;
        }
    }

    private void reach(int way, int spot) {
        if (inForm[way * SPOTS + spot]) {
            return;
        }
        if (way == EXACT_WAY) {
            add(way, spot);
            return;
        }
        int place = spot / STATES;
        widen(place, spot % STATES);
        for (int state = 0; state < STATES; state++) {
            int other = place * STATES + state;
            boolean inHull = way == SETS_WAY ? inValueSets(place, state) : inBounds(way, place, state);
            if (inHull && !inForm[way * SPOTS + other]) {
                add(way, other);
            }
        }
    }

    private void add(int way, int spot) {
        inForm[way * SPOTS + spot] = true;
        if (queued < SPOTS) {
            queue[queued] = spot;
            queued++;
        }
    }

    private void widen(int place, int state) {
        for (int v = 0; v < VARIABLES; v++) {
            valueSets[place * VARIABLES + v] |= 1 << value(state, v);
        }
        for (int ab = 0; ab < PAIRS; ab++) {
            int found = value(state, ab / 4) - value(state, ab % 4);
            if (found > bounds[place * PAIRS + ab]) {
                bounds[place * PAIRS + ab] = found;
            }
        }
    }

    private boolean inValueSets(int place, int state) {
        for (int v = 0; v < VARIABLES; v++) {
            int bit = 1 << value(state, v);
            if ((valueSets[place * VARIABLES + v] & bit) == 0) {
                return false;
            }
        }
        return true;
    }

    private boolean inBounds(int way, int place, int state) {
        for (int ab = 0; ab < PAIRS; ab++) {
            int a = ab / 4;
            int b = ab % 4;
            // A range of one variable is a bound on its difference from 0 and on that of 0 from it.
            boolean counts = way != RANGES_WAY || a == ZERO || b == ZERO;
            if (counts && value(state, a) - value(state, b) > bounds[place * PAIRS + ab]) {
                return false;
            }
        }
        return true;
    }

    /** A state has no bits above those of variable 2, so number 3 reads as 0, as it must. */
    private static int value(int state, int v) {
        return (state >> (3 * v)) & 7;
    }

    private static int withValue(int state, int v, int x) {
        return (state & ~(7 << (3 * v))) | (x << (3 * v));
    }
}
