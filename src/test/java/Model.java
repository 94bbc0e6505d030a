import java.util.ArrayList;
import java.util.BitSet;
import java.util.List;

/**
 * The document read literally, to compare the class with: a hull is the meet of all the elementary
 * forms that have the states, and a result is the limit of rounds over the whole program.
 */
final class Model {
    static final int BAD = -1000;
    static final int FULL = -1001;
    static final int INVALID = -1002;
    static final int NONE = -1003;

    private static final List<List<BitSet>> LEFT_OUT = leftOut();

    private final List<int[]> program = new ArrayList<>();
    private final BitSet[][] results = new BitSet[4][];

    static int valueOf(int state, int v) {
        switch (v) {
            case 0: return state % 8;
            case 1: return state / 8 % 8;
            case 2: return state / 64;
            default: return 0;
        }
    }

    private interface Condition {
        boolean holds(int state);
    }

    private static BitSet statesWith(Condition condition) {
        BitSet states = new BitSet(512);
        for (int state = 0; state < 512; state++) {
            if (condition.holds(state)) {
                states.set(state);
            }
        }
        return states;
    }

    /** For each way what its elementary forms leave out; the others are meets of those forms. */
    private static List<List<BitSet>> leftOut() {
        List<List<BitSet>> all = new ArrayList<>();
        for (int way = 0; way < 4; way++) {
            all.add(new ArrayList<>());
        }
        for (int state = 0; state < 512; state++) {
            int single = state;
            all.get(0).add(statesWith(s -> s == single));
        }
        for (int v = 0; v < 3; v++) {
            int variable = v;
            for (int x = -1; x <= 8; x++) {
                int bound = x;
                all.get(1).add(statesWith(s -> valueOf(s, variable) == bound));
                all.get(2).add(statesWith(s -> valueOf(s, variable) > bound));
                all.get(2).add(statesWith(s -> valueOf(s, variable) < bound));
            }
        }
        for (int ab = 0; ab < 16; ab++) {
            int a = ab / 4;
            int b = ab % 4;
            for (int x = -8; a != b && x <= 8; x++) {
                int bound = x;
                all.get(3).add(statesWith(s -> valueOf(s, a) - valueOf(s, b) > bound));
            }
        }
        return all;
    }

    private static BitSet hull(int way, BitSet states) {
        BitSet meet = statesWith(s -> true);
        for (BitSet outside : LEFT_OUT.get(way)) {
            if (!outside.intersects(states)) {
                meet.andNot(outside);
            }
        }
        return meet;
    }

    private static boolean within(int x, int low, int high) {
        return low <= x && x <= high;
    }

    private static boolean isGood(int op, int a, int b, int c) {
        switch (op) {
            case 0: return within(a, 0, 2) && within(c, 0, 7);
            case 1: return within(a, 0, 2) && within(b, 0, 3) && within(c, -7, 7);
            case 2: return within(a, 0, 2);
            case 3: return within(a, 0, 3) && within(b, 0, 3) && a != b && within(c, -7, 7);
            case 4: case 5: return within(c, 0, 20);
            case 6: return true;
            default: return false;
        }
    }

    private void changed() {
        for (int way = 0; way < 4; way++) {
            results[way] = null;
        }
    }

    int emit(int op, int a, int b, int c) {
        if (program.size() == 20) {
            return FULL;
        }
        if (!isGood(op, a, b, c)) {
            return BAD;
        }
        program.add(new int[] {op, a, b, c});
        changed();
        return program.size();
    }

    void emitAllInto(AbstractValues x) {
        for (int[] s : program) {
            x.emit(s[0], s[1], s[2], s[3]);
        }
    }

    boolean replace(int i, int op, int ab, int c) {
        if (!within(i, 0, program.size() - 1) || !within(ab, 0, 15) || !isGood(op, ab / 4, ab % 4, c)) {
            return false;
        }
        program.set(i, new int[] {op, ab / 4, ab % 4, c});
        changed();
        return true;
    }

    int retract() {
        if (program.isEmpty()) {
            return BAD;
        }
        program.remove(program.size() - 1);
        changed();
        return program.size();
    }

    boolean valid() {
        return program.stream().allMatch(s -> (s[0] != 4 && s[0] != 5) || s[3] <= program.size());
    }

    private static int changedTo(int state, int v, int x) {
        int[] weight = {1, 8, 64};
        return state + (x - valueOf(state, v)) * weight[v];
    }

    private void follow(int i, int state, BitSet[] forms) {
        int[] s = program.get(i);
        int a = s[1];
        int b = s[2];
        int c = s[3];
        switch (s[0]) {
            case 0:
                forms[i + 1].set(changedTo(state, a, c));
                break;
            case 1:
                if (within(valueOf(state, b) + c, 0, 7)) {
                    forms[i + 1].set(changedTo(state, a, valueOf(state, b) + c));
                }
                break;
            case 2:
                for (int x = 0; x < 8; x++) {
                    forms[i + 1].set(changedTo(state, a, x));
                }
                break;
            case 3:
                if (valueOf(state, a) <= valueOf(state, b) + c) {
                    forms[i + 1].set(state);
                }
                break;
            case 4:
                forms[c].set(state);
                break;
            case 5:
                forms[i + 1].set(state);
                forms[c].set(state);
                break;
            default:
                break;
        }
    }

    private BitSet[] workedOut(int way) {
        BitSet[] forms = new BitSet[program.size() + 1];
        for (int place = 0; place < forms.length; place++) {
            forms[place] = new BitSet(512);
        }
        forms[0].set(0);
        int before = -1;
        int size = 0;
        while (size != before) {
            for (int place = 0; place < program.size(); place++) {
                int from = place;
                BitSet form = (BitSet) forms[place].clone();
                form.stream().forEach(state -> follow(from, state, forms));
            }
            before = size;
            size = 0;
            for (int place = 0; place < forms.length; place++) {
                forms[place] = hull(way, forms[place]);
                size += forms[place].cardinality();
            }
        }
        return forms;
    }

    private BitSet form(int way, int i) {
        if (results[way] == null) {
            results[way] = workedOut(way);
        }
        return results[way][i];
    }

    private boolean isPlace(int way, int i) {
        return within(way, 0, 3) && within(i, 0, program.size());
    }

    int count(int way, int i) {
        if (!isPlace(way, i)) {
            return BAD;
        }
        return valid() ? form(way, i).cardinality() : INVALID;
    }

    boolean has(int way, int i, int state) {
        return isPlace(way, i) && within(state, 0, 511) && valid() && form(way, i).get(state);
    }

    int lowest(int way, int i, int v) {
        if (!isPlace(way, i) || !within(v, 0, 2)) {
            return BAD;
        }
        return valid() ? form(way, i).stream().map(s -> valueOf(s, v)).min().orElse(NONE) : INVALID;
    }

    int highest(int way, int i, int v) {
        if (!isPlace(way, i) || !within(v, 0, 2)) {
            return BAD;
        }
        return valid() ? form(way, i).stream().map(s -> valueOf(s, v)).max().orElse(NONE) : INVALID;
    }

    int most(int way, int i, int ab) {
        if (!isPlace(way, i) || !within(ab, 0, 15)) {
            return BAD;
        }
        return valid()
            ? form(way, i).stream().map(s -> valueOf(s, ab / 4) - valueOf(s, ab % 4)).max().orElse(NONE)
            : INVALID;
    }

    boolean exact(int way, int i) {
        return isPlace(way, i) && valid() && form(way, i).equals(form(0, i));
    }

    int unreached(int way) {
        if (!within(way, 0, 3)) {
            return BAD;
        }
        if (!valid()) {
            return INVALID;
        }
        int empty = 0;
        for (int place = 0; place <= program.size(); place++) {
            empty += form(way, place).isEmpty() ? 1 : 0;
        }
        return empty;
    }

    boolean level(int k) {
        return within(k, 0, 1);
    }
}
