/** Long runs of calls, made by a fixed rule from the run's number, answered as the model answers. */
public final class ModelTest {
    private static final int RUNS = 200;
    private static final int CALLS = 512;

    private static long seed;

    private static int pick(int low, int high) {
        seed = seed * 6364136223846793005L + 1442695040888963407L;
        return low + (int) ((seed >>> 33) % (high - low + 1));
    }

    /** Mostly from low to high, now and then just outside or far outside. */
    private static int loose(int low, int high) {
        int kind = pick(0, 59);
        if (kind == 0) {
            return pick(0, 1) == 0 ? low - 1 : high + 1;
        }
        if (kind == 1) {
            return pick(0, 1) == 0 ? Integer.MIN_VALUE : Integer.MAX_VALUE;
        }
        return pick(low, high);
    }

    private static int someOp() {
        // JUMP and END cut most programs short, so they come seldom.
        int[] often = {0, 1, 1, 1, 2, 2, 3, 3, 3, 5, 5, 5, 5, 5};
        return pick(0, 9) == 0 ? loose(0, 6) : often[pick(0, 13)];
    }

    private static int someThird(int op, int size) {
        if (op == 4 || op == 5) {
            return pick(0, 14) == 0 ? loose(0, 20) : pick(0, size);
        }
        if (op == 0) {
            return loose(0, 7);
        }
        return pick(0, 2) > 0 ? pick(-1, 3) : loose(-7, 7);
    }

    private static void change(String run, AbstractValues x, Model m, int[] size) {
        int kind = pick(0, 9);
        int op = someOp();
        int c = someThird(op, size[0]);
        if (kind < 6) {
            int a = loose(0, op == 3 ? 3 : 2);
            int b = loose(0, 3);
            int got = x.emit(op, a, b, c);
            Check.due(run + "emit(" + op + ", " + a + ", " + b + ", " + c + ")", got, m.emit(op, a, b, c));
            size[0] = got > 0 ? got : size[0];
        } else if (kind < 9) {
            int i = loose(0, size[0]);
            int ab = loose(0, 15);
            Check.due(run + "replace(" + i + ", " + op + ", " + ab + ", " + c + ")",
                x.replace(i, op, ab, c), m.replace(i, op, ab, c));
        } else {
            int got = x.retract();
            Check.due(run + "retract()", got, m.retract());
            size[0] = got >= 0 ? got : size[0];
        }
    }

    private static void ask(String run, AbstractValues x, Model m, int size) {
        int way = loose(0, 3);
        int i = loose(0, size);
        String place = "(" + way + ", " + i;
        int z;
        switch (pick(0, 8)) {
            case 0:
                Check.due(run + "valid()", x.valid(), m.valid());
                break;
            case 1:
                Check.due(run + "count" + place + ")", x.count(way, i), m.count(way, i));
                break;
            case 2:
                z = loose(0, 511);
                Check.due(run + "has" + place + ", " + z + ")", x.has(way, i, z), m.has(way, i, z));
                break;
            case 3:
                z = loose(0, 2);
                Check.due(run + "lowest" + place + ", " + z + ")", x.lowest(way, i, z), m.lowest(way, i, z));
                break;
            case 4:
                z = loose(0, 2);
                Check.due(run + "highest" + place + ", " + z + ")", x.highest(way, i, z), m.highest(way, i, z));
                break;
            case 5:
                z = loose(0, 15);
                Check.due(run + "most" + place + ", " + z + ")", x.most(way, i, z), m.most(way, i, z));
                break;
            case 6:
                Check.due(run + "exact" + place + ")", x.exact(way, i), m.exact(way, i));
                break;
            case 7:
                Check.due(run + "unreached(" + way + ")", x.unreached(way), m.unreached(way));
                break;
            default:
                z = loose(0, 1);
                Check.due(run + "level(" + z + ")", x.level(z), m.level(z));
                break;
        }
    }

    /** Every state of every form; new objects each time, since one is good for 512 calls only. */
    private static void compareForms(String run, Model m, int size) {
        for (int part = 0; part < 8 * (size + 1); part++) {
            int way = part % 4;
            int i = part / 8;
            int start = part / 4 % 2 * 256;
            AbstractValues x = new AbstractValues();
            m.emitAllInto(x);
            for (int state = start; state < start + 256; state++) {
                String call = run + "has(" + way + ", " + i + ", " + state + ")";
                Check.due(call, x.has(way, i, state), m.has(way, i, state));
            }
        }
    }

    public static void main(String[] args) {
        for (int r = 0; r < RUNS; r++) {
            seed = r;
            AbstractValues x = new AbstractValues();
            Model m = new Model();
            int[] size = {0};
            for (int call = 0; call < CALLS; call++) {
                String run = "run " + r + ", call " + call + ": ";
                if (pick(0, 9) < (call < 40 ? 7 : 2)) {
                    change(run, x, m, size);
                } else {
                    ask(run, x, m, size[0]);
                }
            }
            if (r % 8 == 0) {
                compareForms("run " + r + ", its program at the end: ", m, size[0]);
            }
        }
        Check.finish();
    }
}
