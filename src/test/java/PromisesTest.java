/** For each promise of the document ordinary calls, the edges that it names, and wrong input. */
public final class PromisesTest extends Check {
    /** Variable 0 counts up from 0 in steps of 2, so its values leave gaps; variable 1 runs along. */
    private static AbstractValues steps() {
        return program(st(FORK, 0, 0, 5), st(LESS, 0, 3, 4), st(COPY, 0, 0, 2), st(COPY, 1, 1, 1),
            st(JUMP, 0, 0, 0));
    }

    private static void promise1NewObject() {
        AbstractValues x = new AbstractValues();
        due("1 new: valid", x.valid(), true);
        for (int way = 0; way < 4; way++) {
            due("1 new: count of place 0", x.count(way, 0), 1);
            due("1 new: count of place 1", x.count(way, 1), BAD);
            due("1 new: has 0", x.has(way, 0, 0), true);
            due("1 new: has 1", x.has(way, 0, 1), false);
            due("1 new: exact", x.exact(way, 0), true);
            due("1 new: unreached", x.unreached(way), 0);
        }
        due("1 new: replace", x.replace(0, END, 0, 0), false);
        due("1 new: retract", x.retract(), BAD);
        due("1 new: emit", x.emit(END, 0, 0, 0), 1);
        due("1 another new: count", new AbstractValues().count(0, 1), BAD);
    }

    private static void promise2Emit() {
        emitRefuses();
        emitTakes();
        AbstractValues x = new AbstractValues();
        for (int n = 1; n <= 20; n++) {
            due("2 emit number " + n, x.emit(SET, 0, 0, n % 8), n);
        }
        due("2 the 21st", x.emit(END, 0, 0, 0), FULL);
        due("2 FULL is tested before BAD", x.emit(99, 0, 0, 0), FULL);
        due("2 FULL changes nothing", x.highest(0, 20, 0), 4);
        due("2 room again: retract", x.retract(), 19);
        due("2 room again: BAD", x.emit(7, 0, 0, 0), BAD);
        due("2 room again: emit", x.emit(END, 0, 0, 0), 20);
    }

    private static void emitRefuses() {
        int[][] wrong = {
            st(-1, 0, 0, 0), st(7, 0, 0, 0), st(LEAST, 0, 0, 0), st(GREATEST, 0, 0, 0),
            st(SET, -1, 0, 0), st(SET, 3, 0, 0), st(SET, 0, 0, -1), st(SET, 0, 0, 8),
            st(COPY, -1, 0, 0), st(COPY, 3, 0, 0), st(COPY, 0, -1, 0), st(COPY, 0, 4, 0),
            st(COPY, 0, 1, -8), st(COPY, 0, 1, 8), st(COPY, 0, 1, LEAST),
            st(ANY, -1, 0, 0), st(ANY, 3, 0, 0),
            st(LESS, -1, 0, 0), st(LESS, 4, 0, 0), st(LESS, 0, -1, 0), st(LESS, 0, 4, 0),
            st(LESS, 0, 1, -8), st(LESS, 0, 1, 8),
            st(LESS, 0, 0, 0), st(LESS, 1, 1, 0), st(LESS, 2, 2, 0), st(LESS, 3, 3, 0),
            st(JUMP, 0, 0, -1), st(JUMP, 0, 0, 21), st(FORK, 0, 0, -1), st(FORK, 0, 0, 21),
        };
        AbstractValues x = new AbstractValues();
        for (int[] s : wrong) {
            String what = "2 emit of " + java.util.Arrays.toString(s);
            due(what, x.emit(s[0], s[1], s[2], s[3]), BAD);
            due(what + " changes nothing", x.count(0, 1), BAD);
        }
    }

    private static void emitTakes() {
        int[][] right = {
            st(SET, 0, 99, 0), st(SET, 2, -99, 7),
            st(COPY, 0, 0, -7), st(COPY, 2, 3, 7), st(COPY, 1, 1, 0),
            st(ANY, 0, 99, 99), st(ANY, 2, LEAST, GREATEST),
            st(LESS, 0, 3, -7), st(LESS, 3, 0, 7), st(LESS, 2, 1, 0),
            st(JUMP, 99, -99, 0), st(JUMP, LEAST, GREATEST, 20),
            st(FORK, 99, -99, 0), st(FORK, GREATEST, LEAST, 20),
            st(END, 99, -99, 99), st(END, LEAST, GREATEST, LEAST),
        };
        for (int[] s : right) {
            AbstractValues x = new AbstractValues();
            due("2 emit of " + java.util.Arrays.toString(s), x.emit(s[0], s[1], s[2], s[3]), 1);
        }
    }

    private static void promise3Replace() {
        AbstractValues x = program(st(SET, 0, 0, 1), st(SET, 1, 0, 2));
        due("3 kept before", x.count(3, 2), 1);
        int[][] wrong = {
            st(-1, END, 0, 0), st(2, END, 0, 0), st(LEAST, END, 0, 0), st(GREATEST, END, 0, 0),
            st(0, -1, 0, 0), st(0, 7, 0, 0), st(0, END, -1, 0), st(0, END, 16, 0),
            st(0, JUMP, -4, 0), st(0, END, LEAST, 0), st(0, END, GREATEST, 0),
            st(0, SET, 12, 0), st(0, SET, 0, 8), st(0, COPY, 12, 0), st(0, COPY, 0, -8),
            st(0, ANY, 15, 0), st(0, LESS, 0, 0), st(0, LESS, 5, 0), st(0, LESS, 10, 0),
            st(0, LESS, 15, 0), st(0, LESS, 1, 8), st(0, JUMP, 0, 21), st(0, FORK, 0, -1),
        };
        for (int[] r : wrong) {
            String what = "3 replace" + java.util.Arrays.toString(r);
            due(what, x.replace(r[0], r[1], r[2], r[3]), false);
            due(what + " changes nothing", x.has(0, 2, 1 + 8 * 2), true);
        }
        due("3 replace: operands that play no part", x.replace(0, SET, 3, 4), true);
        due("3 replace shows", x.has(0, 2, 4 + 8 * 2), true);
        due("3 replace is not an emit", x.count(0, 3), BAD);
        due("3 a is ab / 4", x.replace(0, COPY, 2 * 4 + 3, 5), true);
        due("3 b is ab % 4", x.has(0, 1, 64 * 5), true);
        due("3 the last one", x.replace(1, COPY, 1 * 4 + 2, -2), true);
        due("3 the last one shows", x.has(0, 2, 64 * 5 + 8 * 3), true);
        due("3 it may make the program not valid", x.replace(1, JUMP, 0, 3), true);
        due("3 then it is not valid", x.valid(), false);
        due("3 and be mended", x.replace(1, JUMP, 15, 2), true);
        due("3 then it is valid", x.valid(), true);
        due("3 END with any c", x.replace(1, END, 0, GREATEST), true);
        due("3 END with any c is valid", x.valid(), true);
    }

    private static void promise4Retract() {
        AbstractValues x = program(st(SET, 0, 0, 1), st(SET, 1, 0, 2), st(END, 0, 0, 0));
        due("4 before: unreached", x.unreached(2), 1);
        due("4 first", x.retract(), 2);
        due("4 the results follow", x.unreached(2), 0);
        due("4 the place is gone", x.count(0, 3), BAD);
        due("4 second", x.retract(), 1);
        due("4 third", x.retract(), 0);
        due("4 none left", x.retract(), BAD);
        due("4 still none left", x.retract(), BAD);
        due("4 place 0 is left", x.count(0, 0), 1);
        due("4 emit anew", x.emit(SET, 2, 0, 7), 1);
        due("4 emit anew shows", x.has(3, 1, 64 * 7), true);
        AbstractValues loop = program(st(COPY, 0, 0, 1), st(FORK, 0, 0, 0));
        counts("4 the last one goes back", loop, 0, 8, 8, 8, 8);
        loop.retract();
        counts("4 and has been taken away", loop, 0, 1, 1, 1, 1);
        counts("4 and has been taken away", loop, 1, 1, 1, 1, 1);
    }

    private static void promise5Valid() {
        AbstractValues x = new AbstractValues();
        due("5 empty", x.valid(), true);
        x.emit(FORK, 0, 0, 2);
        due("5 FORK above the number", x.valid(), false);
        x.emit(JUMP, 0, 0, 2);
        due("5 n is the number", x.valid(), true);
        x.emit(JUMP, 0, 0, 20);
        due("5 JUMP above the number", x.valid(), false);
        x.retract();
        due("5 valid again", x.valid(), true);
        x.retract();
        due("5 retract can make it not valid", x.valid(), false);
        AbstractValues y = program(st(SET, 0, 0, 7), st(COPY, 0, 0, 7), st(LESS, 0, 1, 7), st(ANY, 0, 0, 99),
            st(END, 0, 0, 99));
        due("5 other operands are no n", y.valid(), true);
        due("5 unreached statements count too", program(st(END, 0, 0, 0), st(JUMP, 0, 0, 3)).valid(), false);
        AbstractValues z = new AbstractValues();
        for (int i = 0; i < 20; i++) {
            z.emit(FORK, 0, 0, 20);
            due("5 with " + (i + 1) + " of 20", z.valid(), i == 19);
        }
    }

    private static void promise6Count() {
        counts("6 steps", steps(), 0, 4, 32, 56, 26);
        counts("6 steps", steps(), 5, 4, 32, 56, 26);
        counts("6 steps", steps(), 1, 4, 32, 56, 26);
        counts("6 ended", endedProgram(), 1, 0, 0, 0, 0);
        statementsDo();
        AbstractValues all = program(st(ANY, 0, 0, 0), st(ANY, 1, 0, 0), st(ANY, 2, 0, 0));
        counts("6 any of three", all, 3, 512, 512, 512, 512);
        for (int way : NO_WAYS) {
            due("6 way " + way, all.count(way, 0), BAD);
            due("6 way " + way + ", BAD before INVALID", invalidProgram().count(way, 0), BAD);
        }
        for (int i : new int[] {LEAST, -1, 4, GREATEST}) {
            due("6 place " + i, all.count(0, i), BAD);
            due("6 place " + i + ", BAD before INVALID", invalidProgram().count(0, i), BAD);
        }
        due("6 INVALID", invalidProgram().count(3, 1), INVALID);
    }

    private static void statementsDo() {
        AbstractValues set = program(st(SET, 1, 0, 7), st(SET, 1, 0, 3));
        due("SET", set.has(0, 2, 8 * 3), true);
        counts("SET", set, 2, 1, 1, 1, 1);
        due("COPY of another", program(st(SET, 1, 0, 3), st(COPY, 2, 1, 4)).has(0, 2, 8 * 3 + 64 * 7), true);
        AbstractValues above = program(st(SET, 1, 0, 3), st(COPY, 2, 1, 5));
        counts("COPY above 7 ends", above, 2, 0, 0, 0, 0);
        counts("COPY above 7 touches no other place", above, 1, 1, 1, 1, 1);
        AbstractValues below = program(st(SET, 1, 0, 3), st(COPY, 2, 1, -4));
        counts("COPY below 0 ends", below, 2, 0, 0, 0, 0);
        counts("COPY below 0 touches no other place", below, 1, 1, 1, 1, 1);
        due("COPY of itself", program(st(SET, 1, 0, 3), st(COPY, 1, 1, -3)).has(0, 2, 0), true);
        due("COPY of 0", program(st(SET, 1, 0, 3), st(COPY, 1, 3, 6)).has(0, 2, 8 * 6), true);
        counts("COPY of any", program(st(ANY, 0, 0, 0), st(COPY, 1, 0, 5)), 2, 3, 9, 9, 3);
        counts("ANY twice", program(st(ANY, 1, 0, 0), st(ANY, 1, 0, 0)), 2, 8, 8, 8, 8);
        AbstractValues less = program(st(ANY, 0, 0, 0), st(ANY, 1, 0, 0), st(LESS, 0, 1, -5));
        counts("LESS", less, 3, 6, 9, 9, 6);
        counts("LESS a is 0", program(st(ANY, 0, 0, 0), st(LESS, 3, 0, -5)), 2, 3, 3, 3, 3);
        counts("LESS b is 0", program(st(ANY, 0, 0, 0), st(LESS, 0, 3, 5)), 2, 6, 6, 6, 6);
        counts("LESS ends all", program(st(LESS, 0, 3, -1)), 1, 0, 0, 0, 0);
        AbstractValues jump = program(st(JUMP, 0, 0, 2), st(SET, 0, 0, 1));
        counts("JUMP passes over", jump, 1, 0, 0, 0, 0);
        counts("JUMP to the place behind", jump, 2, 1, 1, 1, 1);
        counts("JUMP to itself", program(st(JUMP, 0, 0, 0)), 0, 1, 1, 1, 1);
        counts("JUMP to itself", program(st(JUMP, 0, 0, 0)), 1, 0, 0, 0, 0);
        AbstractValues fork = program(st(FORK, 0, 0, 2), st(SET, 0, 0, 5));
        counts("FORK", fork, 1, 1, 1, 1, 1);
        counts("FORK", fork, 2, 2, 2, 6, 6);
        counts("FORK to the next", program(st(FORK, 0, 0, 1)), 1, 1, 1, 1, 1);
        counts("END", program(st(END, 0, 0, 0)), 1, 0, 0, 0, 0);
        // What a hull adds is followed too: 3 is no exact value, yet it goes on in ways 2 and 3.
        AbstractValues added = program(st(FORK, 0, 0, 2), st(SET, 0, 0, 6), st(LESS, 3, 0, -3), st(LESS, 0, 3, 3));
        counts("added by the hull", added, 4, 0, 0, 1, 1);
    }

    private static void promise7Has() {
        AbstractValues x = steps();
        int[] present = {0, 2 + 8, 4 + 16, 6 + 24};
        int[][] others = {
            {2, 0, 1, 1, 1}, {1, 0, 0, 1, 1}, {8, 0, 1, 1, 0}, {6, 0, 1, 1, 0}, {7, 0, 0, 0, 0}, {64, 0, 0, 0, 0},
        };
        for (int way = 0; way < 4; way++) {
            for (int state : present) {
                due("7 has(" + way + ", 5, " + state + ")", x.has(way, 5, state), true);
            }
            for (int[] row : others) {
                due("7 has(" + way + ", 5, " + row[0] + ")", x.has(way, 5, row[0]), row[1 + way] == 1);
            }
            for (int state : new int[] {LEAST, -1, 512, GREATEST}) {
                due("7 state " + state, x.has(way, 5, state), false);
            }
            for (int i : new int[] {LEAST, -1, 6, GREATEST}) {
                due("7 place " + i, x.has(way, i, 0), false);
            }
            due("7 not valid", invalidProgram().has(way, 0, 0), false);
        }
        for (int way : NO_WAYS) {
            due("7 way " + way, x.has(way, 0, 0), false);
        }
        AbstractValues all = program(st(ANY, 0, 0, 0), st(ANY, 1, 0, 0), st(ANY, 2, 0, 0));
        due("7 the last state", all.has(0, 3, 511), true);
    }

    private static void promise8Lowest() {
        AbstractValues x = program(st(ANY, 0, 0, 0), st(COPY, 1, 0, 2), st(LESS, 3, 0, -3), st(SET, 2, 0, 7));
        for (int way = 0; way < 4; way++) {
            due("8 lowest of 0", x.lowest(way, 4, 0), 3);
            due("8 lowest of 1", x.lowest(way, 4, 1), way == 0 || way == 3 ? 5 : 2);
            due("8 lowest of 2", x.lowest(way, 4, 2), 7);
            due("8 lowest of 2 before", x.lowest(way, 3, 2), 0);
            due("8 INVALID", invalidProgram().lowest(way, 0, 0), INVALID);
            due("8 NONE", endedProgram().lowest(way, 1, 2), NONE);
        }
        for (int wrong : new int[] {LEAST, -1, 3, 4, GREATEST}) {
            due("8 v is " + wrong, x.lowest(0, 0, wrong), BAD);
            due("8 v is " + wrong + ", BAD before INVALID", invalidProgram().lowest(0, 0, wrong), BAD);
            due("8 v is " + wrong + ", BAD before NONE", endedProgram().lowest(0, 1, wrong), BAD);
        }
        refusesPlaces("8", (y, way, i) -> y.lowest(way, i, 0));
    }

    private static void promise9Highest() {
        AbstractValues x = program(st(ANY, 0, 0, 0), st(COPY, 1, 0, 2), st(LESS, 0, 3, 3), st(SET, 2, 0, 7));
        for (int way = 0; way < 4; way++) {
            due("9 highest of 0", x.highest(way, 4, 0), 3);
            due("9 highest of 1", x.highest(way, 4, 1), way == 0 || way == 3 ? 5 : 7);
            due("9 highest of 2", x.highest(way, 4, 2), 7);
            due("9 highest of 2 before", x.highest(way, 3, 2), 0);
            due("9 INVALID", invalidProgram().highest(way, 0, 0), INVALID);
            due("9 NONE", endedProgram().highest(way, 1, 2), NONE);
        }
        for (int wrong : new int[] {LEAST, -1, 3, 4, GREATEST}) {
            due("9 v is " + wrong, x.highest(0, 0, wrong), BAD);
            due("9 v is " + wrong + ", BAD before INVALID", invalidProgram().highest(0, 0, wrong), BAD);
            due("9 v is " + wrong + ", BAD before NONE", endedProgram().highest(0, 1, wrong), BAD);
        }
        refusesPlaces("9", (y, way, i) -> y.highest(way, i, 0));
    }

    private static void promise10Most() {
        AbstractValues x = program(st(ANY, 0, 0, 0), st(COPY, 1, 0, 2), st(SET, 2, 0, 7));
        int[][] exactly = {{0, -2, -2, 5}, {2, 0, 0, 7}, {7, 5, 0, 7}, {0, -2, -7, 0}};
        int[][] loosely = {{0, 3, -2, 5}, {7, 0, 0, 7}, {7, 5, 0, 7}, {0, -2, -7, 0}};
        for (int way = 0; way < 4; way++) {
            int[][] want = way == 0 || way == 3 ? exactly : loosely;
            for (int ab = 0; ab < 16; ab++) {
                due("10 most(" + way + ", 3, " + ab + ")", x.most(way, 3, ab), want[ab / 4][ab % 4]);
                due("10 INVALID, ab " + ab, invalidProgram().most(way, 0, ab), INVALID);
                due("10 NONE, ab " + ab, endedProgram().most(way, 1, ab), NONE);
            }
        }
        for (int wrong : new int[] {LEAST, -1, 16, GREATEST}) {
            due("10 ab is " + wrong, x.most(0, 0, wrong), BAD);
            due("10 ab is " + wrong + ", BAD before INVALID", invalidProgram().most(0, 0, wrong), BAD);
            due("10 ab is " + wrong + ", BAD before NONE", endedProgram().most(0, 1, wrong), BAD);
        }
        refusesPlaces("10", (y, way, i) -> y.most(way, i, 0));
    }

    private interface Question {
        int ask(AbstractValues x, int way, int i);
    }

    private static void refusesPlaces(String promise, Question question) {
        for (int way : NO_WAYS) {
            due(promise + " way " + way, question.ask(endedProgram(), way, 1), BAD);
            due(promise + " way " + way + ", BAD before INVALID", question.ask(invalidProgram(), way, 0), BAD);
        }
        for (int i : new int[] {LEAST, -1, 2, GREATEST}) {
            due(promise + " place " + i, question.ask(endedProgram(), 0, i), BAD);
            due(promise + " place " + i + ", BAD before INVALID", question.ask(invalidProgram(), 0, i), BAD);
        }
    }

    private static void promise11Exact() {
        AbstractValues x = program(st(ANY, 0, 0, 0), st(COPY, 1, 0, 2), st(FORK, 0, 0, 4), st(SET, 0, 0, 0),
            st(END, 0, 0, 0));
        int[][] want = {{1, 1, 1, 1, 1, 1}, {1, 1, 0, 0, 0, 1}, {1, 1, 0, 0, 0, 1}, {1, 1, 1, 1, 0, 1}};
        for (int way = 0; way < 4; way++) {
            for (int i = 0; i <= 5; i++) {
                due("11 exact(" + way + ", " + i + ")", x.exact(way, i), want[way][i] == 1);
            }
            for (int i : new int[] {LEAST, -1, 6, GREATEST}) {
                due("11 place " + i, x.exact(way, i), false);
            }
            due("11 not valid", invalidProgram().exact(way, 0), false);
        }
        for (int way : NO_WAYS) {
            due("11 way " + way, x.exact(way, 0), false);
        }
        due("11 gaps are exact in way 1", program(st(FORK, 0, 0, 2), st(SET, 0, 0, 5)).exact(1, 2), true);
        due("11 gaps are not exact in way 2", program(st(FORK, 0, 0, 2), st(SET, 0, 0, 5)).exact(2, 2), false);
        due("11 gaps are not exact in way 3", program(st(FORK, 0, 0, 2), st(SET, 0, 0, 5)).exact(3, 2), false);
    }

    private static void promise12Unreached() {
        AbstractValues x = program(st(FORK, 0, 0, 2), st(SET, 0, 0, 6), st(LESS, 3, 0, -3), st(LESS, 0, 3, 3),
            st(JUMP, 0, 0, 6), st(SET, 0, 0, 1));
        int[] want = {3, 3, 1, 1};
        for (int way = 0; way < 4; way++) {
            due("12 unreached(" + way + ")", x.unreached(way), want[way]);
            due("12 the place behind counts", endedProgram().unreached(way), 1);
            due("12 empty program", new AbstractValues().unreached(way), 0);
            due("12 INVALID", invalidProgram().unreached(way), INVALID);
        }
        AbstractValues long20 = new AbstractValues();
        for (int i = 0; i < 20; i++) {
            long20.emit(END, 0, 0, 0);
        }
        due("12 twenty ENDs", long20.unreached(3), 20);
        for (int way : NO_WAYS) {
            due("12 way " + way, x.unreached(way), BAD);
        }
    }

    private static void promise13Level() {
        AbstractValues x = steps();
        for (int k : new int[] {1, 0, 0, 1, 1, 0}) {
            due("13 level(" + k + ")", x.level(k), true);
            for (int wrong : new int[] {LEAST, -1, 2, GREATEST}) {
                due("13 level(" + wrong + ")", x.level(wrong), false);
            }
            x.replace(1, LESS, 3, 4);
            counts("13 at level " + k, x, 5, 4, 32, 56, 26);
            x.replace(1, LESS, 3, 2);
            counts("13 changed at level " + k, x, 5, 3, 24, 40, 13);
        }
        x.level(0);
        x.replace(1, LESS, 3, 4);
        x.level(1);
        counts("13 changed before the level", x, 5, 4, 32, 56, 26);
        x.level(0);
        counts("13 asked at both levels", x, 5, 4, 32, 56, 26);
    }

    private static void promise14Order() {
        for (int way : NO_WAYS) {
            due("14 unreached: BAD before INVALID", invalidProgram().unreached(way), BAD);
        }
        AbstractValues x = steps();
        x.emit(END, 0, 0, 0);
        x.replace(0, FORK, 0, 6);
        counts("14 before", x, 6, 4, 32, 56, 26);
        x.emit(9, 0, 0, 0);
        x.emit(LESS, 1, 1, 0);
        x.replace(6, END, 0, 0);
        x.replace(1, LESS, 0, 0);
        x.replace(1, END, 16, 0);
        x.level(7);
        x.count(9, 9);
        x.most(0, 0, 99);
        x.unreached(-5);
        counts("14 refused calls change nothing", x, 6, 4, 32, 56, 26);
        due("14 nor the number of statements", x.emit(END, 0, 0, 0), 7);
        AbstractValues y = invalidProgram();
        y.count(0, 0);
        y.unreached(0);
        y.exact(1, 0);
        due("14 INVALID changes nothing", y.emit(END, 0, 0, 0), 2);
        counts("14 answers once it is valid", y, 2, 1, 1, 1, 1);
    }

    public static void main(String[] args) {
        promise1NewObject();
        promise2Emit();
        promise3Replace();
        promise4Retract();
        promise5Valid();
        promise6Count();
        promise7Has();
        promise8Lowest();
        promise9Highest();
        promise10Most();
        promise11Exact();
        promise12Unreached();
        promise13Level();
        promise14Order();
        finish();
    }
}
