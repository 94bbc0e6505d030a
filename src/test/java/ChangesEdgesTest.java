import java.util.Arrays;

/** The boundary cases of promises 1 to 5 and 13, each sentence with a test of its own. */
public final class ChangesEdgesTest extends Check {
    private static final int[] NO_OPERAND = {LEAST, GREATEST};
    private static final int[] VARIABLE = {0, 2};
    private static final int[] VARIABLE_OR_ZERO = {0, 3};
    private static final int[] VALUE = {0, 7};
    private static final int[] STEP = {-7, 7};
    private static final int[] NUMBER = {0, 20};

    /** For each op the ranges of a, b and c. */
    private static final int[][][] RANGES = {
        {VARIABLE, NO_OPERAND, VALUE},
        {VARIABLE, VARIABLE_OR_ZERO, STEP},
        {VARIABLE, NO_OPERAND, NO_OPERAND},
        {VARIABLE_OR_ZERO, VARIABLE_OR_ZERO, STEP},
        {NO_OPERAND, NO_OPERAND, NUMBER},
        {NO_OPERAND, NO_OPERAND, NUMBER},
        {NO_OPERAND, NO_OPERAND, NO_OPERAND},
    };

    private static boolean isIn(int[] range, int x) {
        return range[0] <= x && x <= range[1];
    }

    private static boolean isGood(int op, int a, int b, int c) {
        if (op < 0 || op > 6) {
            return false;
        }
        int[][] ranges = RANGES[op];
        return isIn(ranges[0], a) && isIn(ranges[1], b) && isIn(ranges[2], c) && (op != LESS || a != b);
    }

    /** Promise 1: "No statements; the level is 1." */
    private static void newObjectHasNoStatements() {
        due("new: emit answers 1", new AbstractValues().emit(END, 0, 0, 0), 1);
        due("new: retract", new AbstractValues().retract(), BAD);
        due("new: replace", new AbstractValues().replace(0, END, 0, 0), false);
        due("new: valid", new AbstractValues().valid(), true);
        for (int way = 0; way < 4; way++) {
            due("new: unreached(" + way + ")", new AbstractValues().unreached(way), 0);
            due("new: count(" + way + ", 1)", new AbstractValues().count(way, 1), BAD);
        }
        onlyState("new", new AbstractValues(), 0, 0);
        AbstractValues used = program(st(SET, 0, 0, 5), st(END, 0, 0, 0));
        due("an object beside a used one", new AbstractValues().emit(END, 0, 0, 0), 1);
        due("the used one beside it", used.emit(END, 0, 0, 0), 3);
    }

    /** The level shows in no answer, so all that can be seen is that a new one answers as after level(1). */
    private static void newObjectAnswersAsAtLevelOne() {
        AbstractValues fresh = new AbstractValues();
        AbstractValues one = new AbstractValues();
        due("new: level(1)", one.level(1), true);
        int[][] statements = {st(ANY, 0, 0, 0), st(FORK, 0, 0, 1), st(COPY, 1, 0, 2), st(LESS, 3, 1, -4)};
        for (int[] s : statements) {
            due("new: emit", fresh.emit(s[0], s[1], s[2], s[3]), one.emit(s[0], s[1], s[2], s[3]));
            for (int way = 0; way < 4; way++) {
                due("new: count in way " + way, fresh.count(way, 1), one.count(way, 1));
                due("new: unreached in way " + way, fresh.unreached(way), one.unreached(way));
            }
        }
        counts("new: at the end", fresh, 4, 4, 24, 24, 4);
    }

    /** Promise 2: "20 are there: FULL", and before it the number of statements. */
    private static void emitUntilFull() {
        AbstractValues x = new AbstractValues();
        for (int n = 1; n <= 20; n++) {
            due("emit number " + n, x.emit(n % 7, 2, 1, 3), n);
        }
        for (int op = 0; op <= 6; op++) {
            due("emit of op " + op + " with 20 there", x.emit(op, 2, 1, 3), FULL);
        }
        due("retract from 20", x.retract(), 19);
        due("emit with 19 there", x.emit(END, 0, 0, 0), 20);
        due("emit with 20 there again", x.emit(END, 0, 0, 0), FULL);
    }

    /** Promise 2: FULL is tested before "op outside 0..6, or a, b or c not as it must be: BAD". */
    private static void emitFullBeforeBad() {
        for (int[] bad : badStatements()) {
            AbstractValues x = new AbstractValues();
            for (int n = 1; n < 20; n++) {
                x.emit(END, 0, 0, 0);
            }
            String what = "emit" + Arrays.toString(bad);
            due(what + " with 19 there", x.emit(bad[0], bad[1], bad[2], bad[3]), BAD);
            due("emit of the 20th", x.emit(END, 0, 0, 0), 20);
            due(what + " with 20 there", x.emit(bad[0], bad[1], bad[2], bad[3]), FULL);
        }
    }

    private static int[][] badStatements() {
        return new int[][] {
            st(-1, 0, 0, 0), st(7, 0, 0, 0), st(LEAST, 0, 0, 0), st(GREATEST, 0, 0, 0),
            st(SET, 3, 0, 0), st(SET, 0, 0, 8), st(COPY, -1, 0, 0), st(COPY, 0, 4, 0), st(COPY, 0, 0, -8),
            st(ANY, 3, 0, 0), st(LESS, 4, 0, 0), st(LESS, 0, -1, 0), st(LESS, 1, 1, 0), st(LESS, 0, 1, 8),
            st(JUMP, 0, 0, 21), st(FORK, 0, 0, -1),
        };
    }

    /** Promise 2: "op outside 0..6 .. BAD" */
    private static void emitOps() {
        for (int op = 0; op <= 6; op++) {
            due("emit of op " + op, new AbstractValues().emit(op, 2, 1, 3), 1);
        }
        for (int op : outside(0, 6)) {
            due("emit of op " + op, new AbstractValues().emit(op, 2, 1, 3), BAD);
            due("replace by op " + op, endedProgram().replace(0, op, 2 * 4 + 1, 3), false);
        }
    }

    /** Promise 2: "a, b or c not as it must be: BAD (operands that an op does not have play no part)" */
    private static void emitOperands() {
        for (int op = 0; op <= 6; op++) {
            for (int operand = 0; operand < 3; operand++) {
                int[] range = RANGES[op][operand];
                emitWith(op, operand, range[0], 1);
                emitWith(op, operand, range[1], 1);
                for (int far : outside(range[0], range[1])) {
                    emitWith(op, operand, far, BAD);
                }
            }
        }
        for (int far : outside(0, 20)) {
            due("END takes all operands", new AbstractValues().emit(END, far, far, far), 1);
            due("JUMP takes all a and b", new AbstractValues().emit(JUMP, far, far, 0), 1);
            due("FORK takes all a and b", new AbstractValues().emit(FORK, far, far, 0), 1);
            due("ANY takes all b and c", new AbstractValues().emit(ANY, 1, far, far), 1);
            due("SET takes all b", new AbstractValues().emit(SET, 1, far, 4), 1);
        }
    }

    private static void emitWith(int op, int operand, int x, int want) {
        int[] s = {op, 2, 1, 0};
        s[1 + operand] = x;
        AbstractValues made = new AbstractValues();
        due("emit" + Arrays.toString(s), made.emit(s[0], s[1], s[2], s[3]), want);
        due("emit after it", made.emit(END, 0, 0, 0), want == BAD ? 1 : 2);
    }

    /** Operands without a part change no answer either. */
    private static void operandsWithoutPart() {
        for (int far : outside(0, 20)) {
            AbstractValues x = program(st(SET, 1, far, 6), st(FORK, far, far, 3), st(ANY, 0, far, far),
                st(JUMP, far, far, 5), st(END, far, far, far));
            String what = "operands " + far + " without a part";
            due(what + ": valid", x.valid(), true);
            counts(what, x, 5, 8, 8, 8, 8);
            emptyForm(what, x, 4);
        }
    }

    private static void emitAndReplaceNearTheEdges() {
        for (int op = -1; op <= 7; op++) {
            for (int c = -8; c <= 21; c++) {
                for (int a = -1; a <= 4; a++) {
                    for (int b = -1; b <= 4; b++) {
                        String what = "emit" + Arrays.toString(st(op, a, b, c));
                        due(what, new AbstractValues().emit(op, a, b, c), isGood(op, a, b, c) ? 1 : BAD);
                    }
                }
                AbstractValues x = endedProgram();
                for (int ab = -5; ab <= 20; ab++) {
                    boolean good = ab >= 0 && ab <= 15 && isGood(op, ab / 4, ab % 4, c);
                    due("replace" + Arrays.toString(st(0, op, ab, c)), x.replace(0, op, ab, c), good);
                }
            }
        }
    }

    /** Promise 3: "(ab from 0 to 15)" */
    private static void replacePairs() {
        for (int op = 0; op <= 6; op++) {
            for (int ab : outside(0, 15)) {
                due("replace by op " + op + " with ab " + ab, endedProgram().replace(0, op, ab, 0), false);
            }
            // 12 to 15 name 3 as a, which SET, COPY and ANY cannot change.
            due("replace by op " + op + " with ab 15", endedProgram().replace(0, op, 15, 0), op > LESS);
            due("replace by op " + op + " with ab 14", endedProgram().replace(0, op, 14, 0), op >= LESS);
            due("replace by op " + op + " with ab 11", endedProgram().replace(0, op, 11, 0), true);
            due("replace by op " + op + " with ab 0", endedProgram().replace(0, op, 0, 0), op != LESS);
            due("replace by op " + op + " with ab 1", endedProgram().replace(0, op, 1, 0), true);
        }
        for (int ab = 0; ab < 12; ab++) {
            AbstractValues x = program(st(SET, 0, 0, 1), st(SET, 1, 0, 2), st(SET, 2, 0, 3), st(END, 0, 0, 0));
            due("replace by COPY with ab " + ab, x.replace(3, COPY, ab, 4), true);
            int[] values = {1, 2, 3, 0};
            int source = values[ab % 4];
            values[ab / 4] = source + 4;
            onlyState("COPY with ab " + ab, x, 4, values[0] + 8 * values[1] + 64 * values[2]);
        }
    }

    /** Promise 3: "There is none .. refused, answers false." */
    private static void replaceWhereThereIsNone() {
        for (int size = 0; size <= 20; size++) {
            AbstractValues x = new AbstractValues();
            for (int n = 0; n < size; n++) {
                x.emit(SET, 0, 0, 1);
            }
            for (int i : outside(0, size - 1)) {
                due("replace of " + i + " with " + size + " there", x.replace(i, SET, 0, 2), false);
            }
            if (size > 0) {
                onlyState("replace of none with " + size + " there", x, size, 1);
                due("replace of the last of " + size, x.replace(size - 1, SET, 4, 3), true);
                due("replace of the first of " + size, x.replace(0, SET, 8, 4), true);
                onlyState("replaced ends of " + size, x, size, replacedEnds(size));
                x.retract();
                due("replace of a retracted one", x.replace(size - 1, SET, 0, 2), false);
            }
        }
    }

    private static int replacedEnds(int size) {
        if (size == 1) {
            return 64 * 4;
        }
        return size == 2 ? 64 * 4 + 8 * 3 : 64 * 4 + 8 * 3 + 1;
    }

    /** Promise 3: "or the new one is not as it must be: refused, answers false." */
    private static void replaceByBadOnes() {
        for (int op = 0; op <= 6; op++) {
            int[] range = RANGES[op][2];
            due("op " + op + ", lowest c", endedProgram().replace(0, op, 9, range[0]), true);
            due("op " + op + ", highest c", endedProgram().replace(0, op, 9, range[1]), true);
            for (int far : outside(range[0], range[1])) {
                AbstractValues x = endedProgram();
                due("op " + op + ", c " + far, x.replace(0, op, 9, far), false);
                emptyForm("op " + op + ", c " + far + " is not put there", x, 1);
            }
        }
        for (int[] bad : badStatements()) {
            if (isIn(VARIABLE_OR_ZERO, bad[1]) && isIn(VARIABLE_OR_ZERO, bad[2])) {
                AbstractValues x = endedProgram();
                due("replace by " + Arrays.toString(bad), x.replace(0, bad[0], bad[1] * 4 + bad[2], bad[3]), false);
                emptyForm("it is not put there: " + Arrays.toString(bad), x, 1);
            }
        }
    }

    /** A program that is not valid, or full, does not keep a replace from being done. */
    private static void replaceInAnyProgram() {
        AbstractValues x = invalidProgram();
        due("replace makes it valid", x.replace(0, JUMP, 0, 1), true);
        onlyState("replace makes it valid", x, 1, 0);
        due("replace makes it not valid", x.replace(0, FORK, 0, 20), true);
        due("replace makes it not valid: count", x.count(0, 0), INVALID);
        AbstractValues full = new AbstractValues();
        for (int n = 0; n < 20; n++) {
            full.emit(SET, 0, 0, 1);
        }
        due("replace of the last of 20", full.replace(19, SET, 0, 2), true);
        onlyState("replace of the last of 20", full, 20, 2);
    }

    /** Promise 4: "BAD if there was none." */
    private static void retractUntilNone() {
        for (int size = 0; size <= 20; size++) {
            AbstractValues x = new AbstractValues();
            for (int n = 0; n < size; n++) {
                x.emit(JUMP, 0, 0, 20);
            }
            for (int left = size - 1; left >= 0; left--) {
                due("retract, " + left + " left", x.retract(), left);
            }
            due("retract of none after " + size, x.retract(), BAD);
            due("retract of none again", x.retract(), BAD);
            due("valid with none left", x.valid(), true);
            onlyState("none left", x, 0, 0);
            due("emit after retract of none", x.emit(END, 0, 0, 0), 1);
            due("retract of that one", x.retract(), 0);
        }
    }

    /** Promise 5: "an empty one is." */
    private static void emptyProgramIsValid() {
        due("new: valid", new AbstractValues().valid(), true);
        AbstractValues x = invalidProgram();
        due("valid with one that names 2", x.valid(), false);
        x.retract();
        due("valid with none", x.valid(), true);
        x.retract();
        due("valid after retract of none", x.valid(), true);
    }

    /** Promise 13: "k outside 0..1: refused, answers false." */
    private static void levels() {
        AbstractValues x = program(st(ANY, 0, 0, 0), st(FORK, 0, 0, 0));
        for (int k : new int[] {0, 1, 1, 0, 0}) {
            due("level(" + k + ")", x.level(k), true);
            for (int far : outside(0, 1)) {
                due("level(" + far + ") at level " + k, x.level(far), false);
            }
            counts("at level " + k, x, 2, 8, 8, 8, 8);
            due("level " + k + ": emit", x.emit(LESS, 0, 3, 6), 3);
            counts("at level " + k + ", emitted", x, 3, 7, 7, 7, 7);
            due("level " + k + ": replace", x.replace(2, SET, 0, 6), true);
            counts("at level " + k + ", replaced", x, 3, 1, 1, 1, 1);
            due("level " + k + ": retract", x.retract(), 2);
        }
    }

    public static void main(String[] args) {
        newObjectHasNoStatements();
        newObjectAnswersAsAtLevelOne();
        emitUntilFull();
        emitFullBeforeBad();
        emitOps();
        emitOperands();
        operandsWithoutPart();
        emitAndReplaceNearTheEdges();
        replacePairs();
        replaceWhereThereIsNone();
        replaceByBadOnes();
        replaceInAnyProgram();
        retractUntilNone();
        emptyProgramIsValid();
        levels();
        finish();
    }
}
