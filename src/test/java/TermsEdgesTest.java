/** The sentences of the document's "Terms" that name a boundary case, each with a test of its own. */
public final class TermsEdgesTest extends Check {
    private static final int[] WEIGHTS = {1, 8, 64, 0};

    private static int stateOf(int x, int y, int z) {
        return x + 8 * y + 64 * z;
    }

    /** A state in which number v has value x; the other variables, if any, have the value rest. */
    private static int stateWith(int v, int x, int rest) {
        return stateOf(rest, rest, rest) + WEIGHTS[v] * (x - rest);
    }

    private static int[][] settingAll(int state, int[] last) {
        return new int[][] {st(SET, 0, 0, state % 8), st(SET, 1, 0, state / 8 % 8), st(SET, 2, 0, state / 64), last};
    }

    /** "3 in place of a variable stands for the number 0" */
    private static void threeStandsForZero() {
        int fives = stateOf(5, 5, 5);
        for (int a = 0; a < 3; a++) {
            for (int c = -7; c <= 7; c++) {
                String what = "COPY of 3 into " + a + " plus " + c;
                copied(what, program(settingAll(fives, st(COPY, a, 3, c))), c, stateWith(a, c, 5));
                passed("3 at most " + a + " plus " + c, program(settingAll(fives, st(LESS, 3, a, c))), c >= -5, fives);
                passed(a + " at most 3 plus " + c, program(settingAll(fives, st(LESS, a, 3, c))), c >= 5, fives);
            }
        }
        AbstractValues x = program(settingAll(stateOf(1, 4, 7), st(JUMP, 0, 0, 4)));
        int[] values = {1, 4, 7, 0};
        for (int way = 0; way < 4; way++) {
            for (int v = 0; v <= 3; v++) {
                due("most of " + v + " less 3 in way " + way, x.most(way, 4, v * 4 + 3), values[v]);
                due("most of 3 less " + v + " in way " + way, x.most(way, 4, 3 * 4 + v), -values[v]);
            }
        }
    }

    /** "the place behind the last one has the next number" */
    private static void placeBehindTheLast() {
        onlyState("the place behind no statement", new AbstractValues(), 0, 0);
        AbstractValues x = new AbstractValues();
        for (int size = 1; size <= 20; size++) {
            x.emit(SET, 0, 0, size % 8);
            onlyState("the place behind " + size, x, size, size % 8);
            due("two behind the last of " + size, x.count(0, size + 1), BAD);
            due("two behind the last of " + size + ", has", x.has(0, size + 1, size % 8), false);
        }
    }

    /** "statements that go on with n go on there if n is the number of statements" */
    private static void goingOnBehindTheLast() {
        for (int size = 1; size <= 20; size++) {
            for (int op = JUMP; op <= FORK; op++) {
                for (int from = 0; from < size; from++) {
                    goesOnBehindTheLast(op, from, size);
                }
            }
        }
    }

    private static void goesOnBehindTheLast(int op, int from, int size) {
        int[][] statements = new int[size][];
        for (int i = 0; i < size; i++) {
            statements[i] = i < from ? st(SET, 1, 0, 6) : i == from ? st(op, 0, 0, size) : st(END, 0, 0, 0);
        }
        String what = "op " + op + " at " + from + " of " + size;
        AbstractValues x = program(statements);
        onlyState(what, x, size, from == 0 ? 0 : 8 * 6);
        if (from + 1 < size) {
            counts(what, x, from + 1, op == FORK ? new int[] {1, 1, 1, 1} : new int[] {0, 0, 0, 0});
        }
        int between = size - from - 1;
        due(what + ": unreached", x.unreached(0), op == FORK && between > 0 ? between - 1 : between);
    }

    /** COPY: "if that is not from 0 to 7 the state ends here" */
    private static void copyOutOfRangeEnds() {
        for (int a = 0; a < 3; a++) {
            for (int b = 0; b < 3; b++) {
                for (int c = -7; c <= 7; c++) {
                    for (int x = 0; x <= 7; x++) {
                        int before = stateWith(b, x, 2);
                        int after = before + WEIGHTS[a] * (x + c - (a == b ? x : 2));
                        String what = "COPY " + a + " becomes " + b + " (" + x + ") plus " + c;
                        copied(what, program(settingAll(before, st(COPY, a, b, c))), x + c, after);
                    }
                    AbstractValues any = program(st(ANY, b, 0, 0), st(COPY, a, b, c));
                    int left = c < 0 ? 8 + c : 8 - c;
                    due("COPY " + a + " becomes any " + b + " plus " + c, any.count(0, 2), left);
                }
            }
        }
    }

    private static void copied(String what, AbstractValues x, int sum, int after) {
        passed(what, x, sum >= 0 && sum <= 7, after);
        counts(what + ", where it was", x, 3, 1, 1, 1, 1);
    }

    private static void passed(String what, AbstractValues x, boolean goesOn, int after) {
        if (goesOn) {
            onlyState(what, x, 4, after);
        } else {
            emptyForm(what, x, 4);
        }
    }

    /** ANY: "eight states (some may be the same)" */
    private static void anyMakesEightStates() {
        for (int a = 0; a < 3; a++) {
            AbstractValues x = program(settingAll(stateOf(1, 3, 6), st(ANY, a, 0, 0)));
            counts("ANY of " + a, x, 4, 8, 8, 8, 8);
            for (int value = 0; value <= 7; value++) {
                int state = stateOf(1, 3, 6) + WEIGHTS[a] * (value - new int[] {1, 3, 6}[a]);
                due("ANY of " + a + " has " + value, x.has(0, 4, state), true);
            }
            x.emit(ANY, a, 0, 0);
            counts("ANY of " + a + " twice", x, 5, 8, 8, 8, 8);
            x.emit(ANY, (a + 1) % 3, 0, 0);
            counts("ANY of two", x, 6, 64, 64, 64, 64);
            x.emit(ANY, (a + 2) % 3, 0, 0);
            counts("ANY of three", x, 7, 512, 512, 512, 512);
            x.emit(ANY, a, 0, 0);
            counts("ANY of all states", x, 8, 512, 512, 512, 512);
        }
        AbstractValues merged = program(st(ANY, 0, 0, 0), st(COPY, 1, 0, 0), st(ANY, 0, 0, 0), st(ANY, 1, 0, 0));
        counts("eight states apart become 64", merged, 3, 64, 64, 64, 64);
        counts("and the 64 of the other are the same", merged, 4, 64, 64, 64, 64);
    }

    /** LESS: "a and b differ, one of them may be 3" */
    private static void lessOperands() {
        for (int a = -1; a <= 4; a++) {
            for (int b = -1; b <= 4; b++) {
                boolean good = a >= 0 && a <= 3 && b >= 0 && b <= 3 && a != b;
                String what = "LESS with " + a + " and " + b;
                due("emit of " + what, new AbstractValues().emit(LESS, a, b, 0), good ? 1 : BAD);
                if (a >= 0 && a <= 3 && b >= 0 && b <= 3) {
                    due("replace by " + what, endedProgram().replace(0, LESS, a * 4 + b, 0), good);
                }
            }
        }
        for (int far : outside(0, 3)) {
            due("emit of LESS with " + far + " and 3", new AbstractValues().emit(LESS, far, 3, 0), BAD);
            due("emit of LESS with 3 and " + far, new AbstractValues().emit(LESS, 3, far, 0), BAD);
            due("emit of LESS with " + far + " twice", new AbstractValues().emit(LESS, far, far, 0), BAD);
        }
    }

    /** LESS: "if a is at most b plus c .. the state goes on, else it ends here" */
    private static void lessPassesOrEnds() {
        for (int ab = 0; ab < 16; ab++) {
            int a = ab / 4;
            int b = ab % 4;
            for (int xy = 0; a != b && xy < 64; xy++) {
                int x = a == 3 ? 0 : xy / 8;
                int y = b == 3 ? 0 : xy % 8;
                int before = stateOf(3, 3, 3) + WEIGHTS[a] * (x - 3) + WEIGHTS[b] * (y - 3);
                for (int c = -7; c <= 7; c++) {
                    String what = "LESS " + a + " (" + x + ") at most " + b + " (" + y + ") plus " + c;
                    AbstractValues tested = program(settingAll(before, st(LESS, a, b, c)));
                    due(what + ": count(0, 4)", tested.count(0, 4), x <= y + c ? 1 : 0);
                    due(what + ": has(0, 4, " + before + ")", tested.has(0, 4, before), x <= y + c);
                    due(what + ": count(3, 4)", tested.count(3, 4), x <= y + c ? 1 : 0);
                }
            }
        }
    }

    /** "(For JUMP and FORK c is n, from 0 to 20.)" */
    private static void jumpsNameZeroToTwenty() {
        for (int op = JUMP; op <= FORK; op++) {
            for (int n = 0; n <= 20; n++) {
                due("emit of op " + op + " to " + n, new AbstractValues().emit(op, 0, 0, n), 1);
                due("replace by op " + op + " to " + n, endedProgram().replace(0, op, 0, n), true);
            }
            for (int n : outside(0, 20)) {
                due("emit of op " + op + " to " + n, new AbstractValues().emit(op, 0, 0, n), BAD);
                due("replace by op " + op + " to " + n, endedProgram().replace(0, op, 0, n), false);
            }
        }
    }

    /** "A program is VALID iff no n is above the number of statements" */
    private static void validIffNoNumberIsAbove() {
        for (int op = JUMP; op <= FORK; op++) {
            for (int size = 1; size <= 20; size++) {
                for (int n = 0; n <= 20; n++) {
                    validIffNotAbove(op, n, 0, size);
                    validIffNotAbove(op, n, size / 2, size);
                    validIffNotAbove(op, n, size - 1, size);
                }
            }
        }
        AbstractValues two = program(st(JUMP, 0, 0, 2), st(FORK, 0, 0, 3));
        due("one of two numbers is above", two.valid(), false);
        two.replace(0, JUMP, 0, 4);
        two.replace(1, FORK, 0, 2);
        due("the other one is above", two.valid(), false);
        two.replace(0, END, 15, 4);
        due("what has been replaced plays no part", two.valid(), true);
        AbstractValues no = program(st(SET, 0, 9, 7), st(COPY, 0, 3, 7), st(ANY, 0, 9, 21), st(LESS, 3, 0, 7));
        no.emit(END, 0, 0, GREATEST);
        due("other operands are no n", no.valid(), true);
    }

    private static void validIffNotAbove(int op, int n, int from, int size) {
        AbstractValues x = new AbstractValues();
        for (int i = 0; i < size; i++) {
            x.emit(i == from ? op : SET, 0, 0, i == from ? n : 7);
        }
        String what = "op " + op + " to " + n + " at " + from + " of " + size;
        due(what + ": valid()", x.valid(), n <= size);
        due(what + ": unreached(0)", x.unreached(0) != INVALID, n <= size);
    }

    /** "(The empty set is a form in all ways.)" */
    private static void emptySetIsAForm() {
        int[][] ends = {
            st(END, 0, 0, 0), st(JUMP, 0, 0, 0), st(COPY, 1, 2, -1), st(COPY, 2, 3, -7), st(LESS, 0, 1, -1),
        };
        for (int[] end : ends) {
            for (int way = 0; way < 4; way++) {
                String what = "behind op " + end[0] + " in way " + way;
                AbstractValues x = program(end, st(ANY, 2, 0, 0), st(FORK, 0, 0, 1));
                due(what + ": unreached", x.unreached(way), 3);
                for (int i = 1; i <= 3; i++) {
                    due(what + ": count at " + i, x.count(way, i), 0);
                    due(what + ": exact at " + i, x.exact(way, i), true);
                    due(what + ": lowest at " + i, x.lowest(way, i, 0), NONE);
                }
                hasNoState(what, program(end), way);
            }
        }
    }

    private static void hasNoState(String what, AbstractValues x, int way) {
        // 511 leaves one call for the statement: an object is good for 512.
        for (int state = 0; state < 511; state++) {
            due(what + ": has " + state, x.has(way, 1, state), false);
        }
    }

    public static void main(String[] args) {
        threeStandsForZero();
        placeBehindTheLast();
        goingOnBehindTheLast();
        copyOutOfRangeEnds();
        anyMakesEightStates();
        lessOperands();
        lessPassesOrEnds();
        jumpsNameZeroToTwenty();
        validIffNoNumberIsAbove();
        emptySetIsAForm();
        finish();
    }
}
