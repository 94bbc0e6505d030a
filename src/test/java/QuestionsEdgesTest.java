/** The boundary cases of promises 6 to 12 and the order of promise 14, each sentence with a test of its own. */
public final class QuestionsEdgesTest extends Check {
    /** A question about a way and a place, its third argument, if it has one, being z. */
    private interface Question {
        int ask(AbstractValues x, int way, int i, int z);
    }

    private interface YesOrNo {
        boolean ask(AbstractValues x, int way, int i);
    }

    /** Places 0 and 1 are reached, 2 and 3 are not. */
    private static AbstractValues halfReached() {
        return program(st(SET, 0, 0, 5), st(END, 0, 0, 0), st(ANY, 1, 0, 0));
    }

    /** Not valid; if it were, places 2 and 3 would not be reached. */
    private static AbstractValues halfReachedInvalid() {
        return program(st(SET, 0, 0, 5), st(END, 0, 0, 0), st(JUMP, 0, 0, 4));
    }

    private static AbstractValues allStates() {
        return program(st(ANY, 0, 0, 0), st(ANY, 1, 0, 0), st(ANY, 2, 0, 0));
    }

    private static AbstractValues ofSize(int size) {
        AbstractValues x = new AbstractValues();
        for (int i = 0; i < size; i++) {
            x.emit(SET, 0, 0, 3);
        }
        return x;
    }

    /** "way outside 0..3 .. BAD", be the place within its range or not, be the program valid or not. */
    private static void badWays(String name, Question q) {
        for (int way : NO_WAYS) {
            String what = name + " in way " + way;
            due(what, q.ask(halfReached(), way, 0, 0), BAD);
            due(what + " of an empty form", q.ask(halfReached(), way, 2, 0), BAD);
            due(what + " of a program that is not valid", q.ask(halfReachedInvalid(), way, 0, 0), BAD);
            due(what + " of no statement", q.ask(new AbstractValues(), way, 0, 0), BAD);
            for (int i : outside(0, 3)) {
                due(what + " at " + i, q.ask(halfReached(), way, i, 0), BAD);
                due(what + " at " + i + ", not valid", q.ask(halfReachedInvalid(), way, i, 0), BAD);
            }
        }
    }

    /** "i outside 0 to the number of statements: BAD" */
    private static void badPlaces(String name, Question q) {
        for (int way = 0; way < 4; way++) {
            for (int i : outside(0, 3)) {
                String what = name + " in way " + way + " at " + i;
                due(what, q.ask(halfReached(), way, i, 0), BAD);
                due(what + " of a program that is not valid", q.ask(halfReachedInvalid(), way, i, 0), BAD);
            }
            for (int i = 0; i <= 3; i++) {
                due(name + " at " + i + " is not BAD", q.ask(halfReached(), way, i, 0) != BAD, true);
            }
        }
        for (int size = 0; size <= 20; size++) {
            AbstractValues x = ofSize(size);
            String what = name + " with " + size + " statements at ";
            due(what + "its end is answered", q.ask(x, 0, size, 0) > BAD, true);
            due(what + "the first one outside", q.ask(x, 0, size + 1, 0), BAD);
            due(what + "-1", q.ask(x, 0, -1, 0), BAD);
        }
    }

    /** "the program is not valid: INVALID", be the form at the place empty or not. */
    private static void invalid(String name, Question q) {
        for (int way = 0; way < 4; way++) {
            for (int i = 0; i <= 3; i++) {
                String what = name + " in way " + way + " at " + i;
                due(what, q.ask(halfReachedInvalid(), way, i, 0), INVALID);
            }
        }
        AbstractValues x = halfReached();
        int before = q.ask(x, 2, 1, 0);
        x.replace(2, FORK, 0, 20);
        due(name + " of one that has been valid", q.ask(x, 2, 1, 0), INVALID);
        x.replace(2, FORK, 0, 3);
        due(name + " of one that is valid again", q.ask(x, 2, 1, 0), before);
    }

    /** "the form is empty: NONE" */
    private static void none(String name, Question q) {
        for (int way = 0; way < 4; way++) {
            for (int i = 0; i <= 3; i++) {
                due(name + " in way " + way + " at " + i + " is NONE", q.ask(halfReached(), way, i, 0) == NONE, i >= 2);
            }
        }
    }

    /** "v outside its range: BAD", tested before INVALID and NONE. */
    private static void badThird(String name, Question q, int high) {
        for (int way = 0; way < 4; way++) {
            for (int z : outside(0, high)) {
                String what = name + " in way " + way + " of " + z;
                due(what, q.ask(halfReached(), way, 0, z), BAD);
                due(what + " in an empty form", q.ask(halfReached(), way, 2, z), BAD);
                due(what + ", not valid", q.ask(halfReachedInvalid(), way, 0, z), BAD);
                due(what + ", not valid, would be empty", q.ask(halfReachedInvalid(), way, 3, z), BAD);
                due(what + ", way outside too", q.ask(halfReached(), 4, 0, z), BAD);
                due(what + ", place outside too", q.ask(halfReached(), way, 4, z), BAD);
            }
            for (int z = 0; z <= high; z++) {
                String what = name + " in way " + way + " of " + z;
                due(what + " is not BAD", q.ask(halfReached(), way, 1, z) > BAD, true);
                due(what + ", place outside", q.ask(halfReached(), way, -1, z), BAD);
                due(what + ", not valid", q.ask(halfReachedInvalid(), way, 1, z), INVALID);
                due(what + ", not valid, would be empty", q.ask(halfReachedInvalid(), way, 2, z), INVALID);
                due(what + " in an empty form", q.ask(halfReached(), way, 2, z), NONE);
            }
        }
    }

    /** Promise 6: "way outside 0..3, or i outside 0 to the number of statements: BAD; .. not valid: INVALID." */
    private static void countOrder() {
        Question count = (x, way, i, z) -> x.count(way, i);
        badWays("count", count);
        badPlaces("count", count);
        invalid("count", count);
        emptyForm("count", halfReached(), 2);
        counts("count of all states", allStates(), 3, 512, 512, 512, 512);
        counts("count of one", allStates(), 0, 1, 1, 1, 1);
    }

    /** Promises 8 and 9: "way, i or v outside its range: BAD; .. not valid: INVALID; the form is empty: NONE." */
    private static void lowestAndHighestOrder() {
        Question[] questions = {
            (x, way, i, z) -> x.lowest(way, i, z), (x, way, i, z) -> x.highest(way, i, z),
        };
        String[] names = {"lowest", "highest"};
        for (int k = 0; k < 2; k++) {
            badWays(names[k], questions[k]);
            badPlaces(names[k], questions[k]);
            badThird(names[k], questions[k], 2);
            invalid(names[k], questions[k]);
            none(names[k], questions[k]);
        }
        for (int way = 0; way < 4; way++) {
            for (int v = 0; v < 3; v++) {
                due("lowest of all values", allStates().lowest(way, 3, v), 0);
                due("highest of all values", allStates().highest(way, 3, v), 7);
                due("lowest where all are 0", allStates().lowest(way, 0, v), 0);
                due("highest where all are 0", allStates().highest(way, 0, v), 0);
                AbstractValues sevens = program(st(SET, 0, 0, 7), st(SET, 1, 0, 7), st(SET, 2, 0, 7));
                due("lowest where all are 7", sevens.lowest(way, 3, v), 7);
                due("highest where all are 7", sevens.highest(way, 3, v), 7);
            }
        }
    }

    /** Promise 10: "(ab from 0 to 15); otherwise as lowest." */
    private static void mostOrder() {
        Question most = (x, way, i, z) -> x.most(way, i, z);
        badWays("most", most);
        badPlaces("most", most);
        badThird("most", most, 15);
        invalid("most", most);
        none("most", most);
        AbstractValues ends = program(st(SET, 0, 0, 7), st(SET, 2, 0, 7));
        int[] values = {7, 0, 7, 0};
        for (int way = 0; way < 4; way++) {
            for (int ab = 0; ab < 16; ab++) {
                String what = "most in way " + way + " of " + ab;
                due(what, ends.most(way, 2, ab), values[ab / 4] - values[ab % 4]);
                due(what + " of all states", allStates().most(way, 3, ab), mostOfAll(ab / 4, ab % 4));
            }
        }
    }

    private static int mostOfAll(int a, int b) {
        return a == b || a == 3 ? 0 : 7;
    }

    /** "false for way or i outside their ranges, .. or a program that is not valid" */
    private static void falseOutside(String name, YesOrNo q) {
        for (int way : NO_WAYS) {
            for (int i = -1; i <= 4; i++) {
                due(name + " in way " + way + " at " + i, q.ask(halfReached(), way, i), false);
                due(name + " in way " + way + " at " + i + ", not valid", q.ask(halfReachedInvalid(), way, i), false);
            }
        }
        for (int way = 0; way < 4; way++) {
            for (int i : outside(0, 3)) {
                due(name + " in way " + way + " at " + i, q.ask(halfReached(), way, i), false);
                due(name + " in way " + way + " at " + i + ", not valid", q.ask(halfReachedInvalid(), way, i), false);
            }
            for (int i = 0; i <= 3; i++) {
                due(name + " in way " + way + " at " + i + ", not valid", q.ask(halfReachedInvalid(), way, i), false);
            }
            for (int size = 0; size <= 20; size++) {
                due(name + " in way " + way + " at the end of " + size, q.ask(ofSize(size), way, size), true);
                due(name + " in way " + way + " outside " + size, q.ask(ofSize(size), way, size + 1), false);
                due(name + " in way " + way + " before 0 of " + size, q.ask(ofSize(size), way, -1), false);
            }
        }
        AbstractValues x = ofSize(2);
        due(name + " while it is valid", q.ask(x, 1, 2), true);
        x.emit(JUMP, 0, 0, 4);
        due(name + " when it is no more", q.ask(x, 1, 2), false);
        x.retract();
        due(name + " when it is again", q.ask(x, 1, 2), true);
    }

    /** Promise 7: "false for way or i outside their ranges, state outside 0..511, or a program .. not valid." */
    private static void hasOutside() {
        falseOutside("has", (x, way, i) -> x.has(way, i, 0) || x.has(way, i, 3));
        for (int way = 0; way < 4; way++) {
            for (int state : outside(0, 511)) {
                String what = "has in way " + way + " of " + state;
                for (int i = 0; i <= 3; i++) {
                    // Places before and behind have the states that a wrong state would name.
                    due(what + " at " + i, allStates().has(way, i, state), false);
                }
                due(what + " outside all", allStates().has(4, 4, state), false);
                due(what + ", not valid", invalidProgram().has(way, 0, state), false);
            }
            due("has in way " + way + " the first state", allStates().has(way, 3, 0), true);
            due("has in way " + way + " the last state", allStates().has(way, 3, 511), true);
            due("has in way " + way + " the last state, before", allStates().has(way, 2, 511), false);
        }
    }

    /** At place 7 variables 0 and 1 are x or y, exactly not both x; every other hull adds that state alone. */
    private static AbstractValues lacking(int x, int y) {
        return program(st(SET, 0, 0, x), st(SET, 1, 0, x), st(SET, 2, 0, x), st(FORK, 0, 0, 6), st(SET, 0, 0, y),
            st(FORK, 0, 0, 7), st(SET, 1, 0, y));
    }

    /** Promise 11: "otherwise as has." */
    private static void exactOutside() {
        falseOutside("exact", (x, way, i) -> x.exact(way, i));
        for (int way = 0; way < 4; way++) {
            for (int i = 0; i <= 3; i++) {
                due("exact in way " + way + " at " + i, halfReached().exact(way, i), true);
                due("exact of all in way " + way + " at " + i, allStates().exact(way, i), true);
            }
            due("exact but for the first state in way " + way, lacking(0, 1).exact(way, 7), way == 0);
            due("exact but for the last state in way " + way, lacking(7, 6).exact(way, 7), way == 0);
            AbstractValues gap = program(st(FORK, 0, 0, 2), st(SET, 2, 0, 2));
            due("exact with a gap in way " + way, gap.exact(way, 2), way < 2);
            AbstractValues equal = program(st(ANY, 0, 0, 0), st(COPY, 2, 0, 0));
            due("exact with equal ones in way " + way, equal.exact(way, 2), way == 0 || way == 3);
        }
    }

    /** Promise 12: "BAD for way outside 0..3; INVALID if the program is not valid." */
    private static void unreachedRefuses() {
        for (int way : NO_WAYS) {
            due("unreached in way " + way, halfReached().unreached(way), BAD);
            due("unreached in way " + way + " of no statement", new AbstractValues().unreached(way), BAD);
        }
        for (int way = 0; way < 4; way++) {
            due("unreached in way " + way, halfReached().unreached(way), 2);
            due("unreached in way " + way + ", not valid", halfReachedInvalid().unreached(way), INVALID);
            due("unreached in way " + way + ", not valid", invalidProgram().unreached(way), INVALID);
            due("unreached in way " + way + " of no statement", new AbstractValues().unreached(way), 0);
            due("unreached in way " + way + " of all reached", ofSize(20).unreached(way), 0);
            AbstractValues ended = ofSize(20);
            ended.replace(0, END, 0, 0);
            due("unreached in way " + way + " of all but one", ended.unreached(way), 20);
            ended.retract();
            due("unreached in way " + way + " of one less", ended.unreached(way), 19);
        }
    }

    /** Promise 14: "unreached: BAD is tested before INVALID." */
    private static void unreachedBadBeforeInvalid() {
        for (int way : NO_WAYS) {
            due("unreached in way " + way + ", not valid", invalidProgram().unreached(way), BAD);
            due("unreached in way " + way + ", not valid", halfReachedInvalid().unreached(way), BAD);
        }
    }

    public static void main(String[] args) {
        countOrder();
        hasOutside();
        lowestAndHighestOrder();
        mostOrder();
        exactOutside();
        unreachedRefuses();
        unreachedBadBeforeInvalid();
        finish();
    }
}
