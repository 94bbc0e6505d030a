import java.util.Arrays;
import java.util.stream.LongStream;

/**
 * What the tests share: it compares answers with those that are due, and ends a test with exit code 1
 * if one differed. The codes and ops are written out here, so that the tests do not take them from the
 * class that they test.
 */
abstract class Check {
    static final int BAD = -1000;
    static final int FULL = -1001;
    static final int INVALID = -1002;
    static final int NONE = -1003;

    static final int SET = 0;
    static final int COPY = 1;
    static final int ANY = 2;
    static final int LESS = 3;
    static final int JUMP = 4;
    static final int FORK = 5;
    static final int END = 6;

    static final int LEAST = Integer.MIN_VALUE;
    static final int GREATEST = Integer.MAX_VALUE;
    static final int[] NO_WAYS = outside(0, 3);

    private static int wrong = 0;
    private static int compared = 0;

    static void due(String what, long got, long want) {
        compared++;
        if (got != want) {
            wrong++;
            System.out.println(what + " answered " + got + ", due is " + want);
        }
    }

    static void due(String what, boolean got, boolean want) {
        compared++;
        if (got != want) {
            wrong++;
            System.out.println(what + " answered " + got + ", due is " + want);
        }
    }

    static void finish() {
        System.out.println(compared + " answers, " + wrong + " not as due");
        if (wrong != 0 || compared == 0) {
            System.exit(1);
        }
    }

    /**
     * Numbers outside a range: the first one on each side, the least and the greatest int, and some
     * that would come to lie inside if a byte, a short or a product with 512 wrapped round.
     */
    static int[] outside(int low, int high) {
        long l = low;
        return LongStream.of(LEAST, LEAST + l, l - 65536, l - 512, l - 256, l - 1, high + 1L, l + 256, l + 512,
                l + 65536, l + (1 << 23), l + (1 << 30), GREATEST)
            .filter(x -> (x < low || x > high) && x >= LEAST && x <= GREATEST)
            .mapToInt(x -> (int) x).distinct().toArray();
    }

    static int[] st(int op, int a, int b, int c) {
        return new int[] {op, a, b, c};
    }

    static AbstractValues program(int[]... statements) {
        AbstractValues x = new AbstractValues();
        for (int[] s : statements) {
            if (x.emit(s[0], s[1], s[2], s[3]) < 0) {
                due("the test's own statement " + Arrays.toString(s), false, true);
            }
        }
        return x;
    }

    static void counts(String what, AbstractValues x, int i, int... want) {
        for (int way = 0; way < want.length; way++) {
            due(what + ": count(" + way + ", " + i + ")", x.count(way, i), want[way]);
        }
    }

    /** The form at place i is, in every way, that one state. */
    static void onlyState(String what, AbstractValues x, int i, int state) {
        counts(what, x, i, 1, 1, 1, 1);
        for (int way = 0; way < 4; way++) {
            due(what + ": has(" + way + ", " + i + ", " + state + ")", x.has(way, i, state), true);
        }
    }

    static void emptyForm(String what, AbstractValues x, int i) {
        counts(what, x, i, 0, 0, 0, 0);
    }

    static AbstractValues invalidProgram() {
        return program(st(JUMP, 0, 0, 2));
    }

    static AbstractValues endedProgram() {
        return program(st(END, 0, 0, 0));
    }
}
