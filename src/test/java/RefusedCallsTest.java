import java.util.ArrayList;
import java.util.HashMap;
import java.util.List;
import java.util.Map;

/**
 * "Where nothing else is said, a call that is refused (by a code below 0 that is named, or by false)
 * changes nothing": after each kind of refused call an object answers later calls as one does that has
 * not had the call.
 */
public final class RefusedCallsTest extends Check {
    private static final int[][] EMPTY = {};

    /** A loop with gaps in its values; place 7, behind END, is not reached. */
    private static final int[][] LOOP = {
        st(FORK, 0, 0, 5), st(LESS, 0, 3, 4), st(COPY, 0, 0, 2), st(COPY, 1, 1, 1), st(JUMP, 0, 0, 0),
        st(SET, 2, 0, 3), st(END, 0, 0, 0),
    };

    private static final int[][] NOT_VALID = {
        st(SET, 0, 0, 3), st(FORK, 0, 0, 9), st(COPY, 1, 0, 1), st(JUMP, 0, 0, 20),
    };

    private static final int[][] TWENTY = twenty();

    /** One or more for each thing that an op asks of its operands; all have a and b that fit into ab. */
    private static final int[][] BAD_STATEMENTS = {
        st(-1, 0, 0, 0), st(7, 0, 0, 0), st(LEAST, 0, 0, 0), st(GREATEST, 0, 0, 0),
        st(SET, 3, 0, 1), st(SET, 0, 0, -1), st(SET, 0, 0, 8), st(COPY, 3, 1, 1), st(COPY, 1, 2, -8),
        st(COPY, 1, 2, GREATEST), st(ANY, 3, 0, 0), st(LESS, 2, 2, 0), st(LESS, 3, 3, 0), st(LESS, 0, 1, 8),
        st(JUMP, 0, 0, -1), st(JUMP, 0, 0, 21), st(FORK, 0, 0, LEAST), st(FORK, 0, 0, 21),
    };

    /**
     * What objects answer that have not had a refused call, so that it is asked for once only; found by
     * the number of statements, in which the programs here differ.
     */
    private static final Map<String, List<Long>> UNTOUCHED = new HashMap<>();

    private interface Call {
        long on(AbstractValues x);
    }

    private static int[][] twenty() {
        int[][] all = new int[20][];
        for (int i = 0; i < 20; i++) {
            all[i] = i < 6 ? LOOP[i] : st(SET, i % 3, 0, i % 8);
        }
        all[6] = st(JUMP, 0, 0, 17);
        all[18] = st(FORK, 0, 0, 20);
        return all;
    }

    private static long asNumber(boolean answer) {
        return answer ? 1 : 0;
    }

    /** Whether the results have been asked for before matters to a class that keeps them. */
    private static AbstractValues prepared(int[][] statements, boolean asked, int k) {
        AbstractValues x = program(statements);
        x.level(k);
        for (int way = 0; asked && way < 4; way++) {
            x.count(way, 0);
            x.unreached(way);
        }
        return x;
    }

    private static void changeLater(AbstractValues x, int later, List<Long> answers) {
        switch (later) {
            case 1:
                // With 20 statements every program is valid, so what it holds comes to light.
                for (int i = 0; i < 20; i++) {
                    answers.add((long) x.emit(COPY, 2, 0, 0));
                }
                break;
            case 2:
                answers.add((long) x.retract());
                answers.add(asNumber(x.replace(0, ANY, 0, 0)));
                break;
            case 3:
                for (int i = 0; i < 21; i++) {
                    answers.add((long) x.retract());
                }
                answers.add((long) x.emit(SET, 1, 0, 2));
                break;
            default:
                break;
        }
    }

    private static void ask(AbstractValues x, int way, List<Long> answers) {
        answers.add(asNumber(x.valid()));
        answers.add((long) x.unreached(way));
        for (int i = 0; i <= 21; i++) {
            int v = i % 3;
            answers.add((long) x.count(way, i));
            answers.add((long) x.lowest(way, i, v));
            answers.add((long) x.highest(way, i, v));
            answers.add((long) x.most(way, i, v * 4 + (v + 1) % 3));
            answers.add(asNumber(x.has(way, i, 2 + 8)));
            answers.add(asNumber(x.exact(way, i)));
        }
    }

    /** What an object answers after a call; a new one for each row of later calls. */
    private static List<Long> answersAfter(int[][] statements, boolean asked, int k, Call call) {
        List<Long> answers = new ArrayList<>();
        for (int later = 0; later < 4; later++) {
            // What a program holds shows in way 0 alone; what is kept of each way, before any change only.
            int ways = later == 0 ? 4 : 1;
            for (int way = 0; way < ways; way++) {
                AbstractValues x = prepared(statements, asked, k);
                call.on(x);
                changeLater(x, later, answers);
                ask(x, way, answers);
            }
        }
        return answers;
    }

    private static void changesNothing(int[][] statements, String name, Call call, long want) {
        for (int variant = 0; variant < 2; variant++) {
            boolean asked = variant == 1;
            String what = name + " with " + statements.length + " statements" + (asked ? ", asked before" : "");
            sameAnswers(what, statements, asked, 1, call, want);
        }
    }

    private static void sameAnswers(String what, int[][] statements, boolean asked, int k, Call call, long want) {
        due(what, call.on(prepared(statements, asked, k)), want);
        List<Long> without = UNTOUCHED.computeIfAbsent(statements.length + " " + asked + " " + k,
            key -> answersAfter(statements, asked, k, x -> 0));
        List<Long> with = answersAfter(statements, asked, k, call);
        int differing = 0;
        for (int n = 0; n < with.size(); n++) {
            differing += with.get(n).equals(without.get(n)) ? 0 : 1;
        }
        due("later calls that answer otherwise after " + what, differing, 0);
    }

    private static void refusedEmits(int[][] statements) {
        boolean isFull = statements.length == 20;
        for (int[] s : BAD_STATEMENTS) {
            String name = "emit(" + s[0] + ", " + s[1] + ", " + s[2] + ", " + s[3] + ")";
            changesNothing(statements, name, x -> x.emit(s[0], s[1], s[2], s[3]), isFull ? FULL : BAD);
        }
        for (int op = 0; isFull && op <= 6; op++) {
            int good = op;
            changesNothing(statements, "emit of op " + op, x -> x.emit(good, 2, 1, 4), FULL);
        }
    }

    private static void refusedReplaces(int[][] statements) {
        int last = statements.length - 1;
        for (int i : new int[] {LEAST, -1, last + 1, GREATEST}) {
            changesNothing(statements, "replace of " + i, x -> asNumber(x.replace(i, SET, 4, 6)), 0);
        }
        for (int ab : new int[] {LEAST, -1, 16, GREATEST}) {
            changesNothing(statements, "replace of the last, ab " + ab, x -> asNumber(x.replace(last, SET, ab, 6)), 0);
            changesNothing(statements, "replace of the first, ab " + ab, x -> asNumber(x.replace(0, END, ab, 6)), 0);
        }
        for (int[] s : BAD_STATEMENTS) {
            int ab = s[1] * 4 + s[2];
            String name = "replace by " + s[0] + ", " + ab + ", " + s[3];
            changesNothing(statements, name, x -> asNumber(x.replace(last, s[0], ab, s[3])), 0);
            changesNothing(statements, name + " at 0", x -> asNumber(x.replace(0, s[0], ab, s[3])), 0);
        }
    }

    private static void refusedLevels(int[][] statements) {
        for (int k : new int[] {LEAST, -1, 2, GREATEST}) {
            changesNothing(statements, "level(" + k + ")", x -> asNumber(x.level(k)), 0);
        }
    }

    private static void refusedLevelsAtLevelZero() {
        int[][] few = {st(FORK, 0, 0, 2), st(SET, 0, 0, 5)};
        for (int k : new int[] {LEAST, -1, 2, GREATEST}) {
            sameAnswers("level(" + k + ") at level 0", few, true, 0, x -> asNumber(x.level(k)), 0);
        }
    }

    /** Refused for the way, the place or the third argument, whatever the program is. */
    private static void refusedForArguments(int[][] statements) {
        int behind = statements.length + 1;
        int[][] places = {{-1, 0}, {4, 0}, {LEAST, 0}, {GREATEST, 0}, {0, -1}, {1, behind}, {2, LEAST}, {3, GREATEST}};
        for (int[] place : places) {
            refusedQuestions(statements, place[0], place[1], BAD);
        }
        for (int wrong : new int[] {LEAST, -1, 512, GREATEST}) {
            changesNothing(statements, "lowest of " + wrong, x -> x.lowest(2, 0, wrong), BAD);
            changesNothing(statements, "highest of " + wrong, x -> x.highest(2, 0, wrong), BAD);
            changesNothing(statements, "most of " + wrong, x -> x.most(2, 0, wrong), BAD);
            changesNothing(statements, "has of " + wrong, x -> asNumber(x.has(2, 0, wrong)), 0);
            changesNothing(statements, "unreached of " + wrong, x -> x.unreached(wrong), BAD);
        }
    }

    private static void refusedQuestions(int[][] statements, int way, int i, int code) {
        String of = "(" + way + ", " + i + ")";
        changesNothing(statements, "count" + of, x -> x.count(way, i), code);
        changesNothing(statements, "lowest" + of, x -> x.lowest(way, i, 0), code);
        changesNothing(statements, "highest" + of, x -> x.highest(way, i, 0), code);
        changesNothing(statements, "most" + of, x -> x.most(way, i, 1), code);
        changesNothing(statements, "has" + of, x -> asNumber(x.has(way, i, 0)), 0);
        changesNothing(statements, "exact" + of, x -> asNumber(x.exact(way, i)), 0);
    }

    private static void refusedAsNotValid() {
        for (int w = 0; w < 4; w++) {
            int way = w;
            refusedQuestions(NOT_VALID, way, 0, INVALID);
            refusedQuestions(NOT_VALID, way, NOT_VALID.length, INVALID);
            changesNothing(NOT_VALID, "unreached(" + way + ")", x -> x.unreached(way), INVALID);
        }
    }

    private static void refusedAsEmpty() {
        for (int w = 0; w < 4; w++) {
            int way = w;
            changesNothing(LOOP, "lowest in way " + way, x -> x.lowest(way, 7, 0), NONE);
            changesNothing(LOOP, "highest in way " + way, x -> x.highest(way, 7, 2), NONE);
            changesNothing(LOOP, "most in way " + way, x -> x.most(way, 7, 4), NONE);
            changesNothing(LOOP, "has in way " + way, x -> asNumber(x.has(way, 7, 0)), 0);
        }
    }

    public static void main(String[] args) {
        for (int[][] statements : new int[][][] {EMPTY, LOOP, NOT_VALID, TWENTY}) {
            refusedEmits(statements);
            refusedReplaces(statements);
            refusedLevels(statements);
            refusedForArguments(statements);
        }
        changesNothing(EMPTY, "retract", x -> x.retract(), BAD);
        refusedLevelsAtLevelZero();
        refusedAsNotValid();
        refusedAsEmpty();
        finish();
    }
}
