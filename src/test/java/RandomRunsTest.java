/**
 * Long runs of drawn calls, each answered by the class and by the Model. The draws come from a
 * fixed row of numbers, so every run is the same each time.
 */
public final class RandomRunsTest {
    private static final int CALLS = 512;
    /** The kind of runs in which tasks come and go, up to all 150. */
    private static final int CHURN = 6;
    /** The kind of runs in which any argument may be any number. */
    private static final int WILD = 7;
    private static final int KINDS = 8;
    private static final int[] LIMITS = {0, 1, 7, 10, 14, 19, 20, 40, 80, 100, 149, 150, 200, 1000,
        1000000, Integer.MAX_VALUE, Integer.MIN_VALUE};
    private static final int INDEX = -1001, ARGUMENT = -1002;

    private final TaskTrees x = new TaskTrees();
    private final Model m = new Model();
    private final int kind;
    private long seed;

    private RandomRunsTest(int run) {
        kind = run % KINDS;
        seed = run * 7919L + 17;
    }

    public static void main(String[] args) {
        int runs = args.length > 1 ? Integer.parseInt(args[1]) : 800;
        for (int run = 0; run < runs; run++) {
            new RandomRunsTest(run).play(run);
        }
        Check.end();
    }

    private void play(int run) {
        for (int i = 0; i < CALLS; i++) {
            int[] call = kind == WILD ? wild(draw()) : draw();
            long got = answer(call, true);
            long want = answer(call, false);
            if (got != want) {
                Check.fault("run " + run + ", call " + i + ": " + java.util.Arrays.toString(call)
                        + " answered " + got + ", due is " + want);
                return;
            }
        }
        compareAll(run);
    }

    private int below(int n) {
        seed = seed * 6364136223846793005L + 1442695040888963407L;
        return (int) ((seed >>> 33) % n);
    }

    /** Mostly tasks that are there; now and then one that is not. */
    private int anyTask() {
        int n = x.count(0);
        if (below(40) == 0) {
            return below(n + 4) - 2;
        }
        for (int i = 0; i < 30; i++) {
            int t = n - 1 - below(below(2) == 0 ? n : Math.min(n, 8));
            if (x.task(t, 0) == 0) {
                return t;
            }
        }
        return below(n);
    }

    private int anyGroup() {
        return below(30) == 0 ? below(24) - 2 : below(x.count(4));
    }

    private int pages() {
        switch (below(12)) {
            case 0: return below(5) - 2;
            case 1: return 1000000 + below(3) - 1;
            case 2: return below(1000000);
            default: return below(400);
        }
    }

    private int path() {
        switch (below(14)) {
            case 0: return below(4) - 2;
            case 1: return (int) (seed >>> 20);
            case 2: return below(1 << 20);
            case 3: return below(256);
            default: return 1 + below(below(2) == 0 ? 7 : 15);
        }
    }

    private int value(int what) {
        switch (what) {
            case 0: return below(8) == 0 ? below(1000003) - 1 : below(3000);
            case 1: return below(3) == 0 ? below(153) - 1 : 20 + below(130);
            case 2: return below(1003) - 1;
            default: return below(3) == 0 ? 0 : below(23) - 1;
        }
    }

    /** An op with its arguments; the kinds of runs favour other parts of the class. */
    private int[] draw() {
        int[][] parts = {
            {0, 0, 0, 0, 1, 2, 2, 3, 4, 5, 6, 7},
            {0, 8, 9, 9, 10, 11, 11, 11, 12, 13, 13, 14, 14, 15, 1},
            {0, 8, 14, 9, 16, 16, 16, 17, 17, 18, 19, 1},
            {0, 20, 20, 20, 21, 21, 22, 23, 24},
            {0, 0, 0, 1, 1, 2, 3}};
        int part = kind == CHURN ? 4 : kind < 4 && below(8) != 0 ? kind : below(4);
        int op = parts[part][below(parts[part].length)];
        int yes = below(2);
        int rarely = below(kind == 5 ? 2 : 6) == 0 ? 1 : 0;
        switch (op) {
            case 0: return new int[] {op, anyTask(), rarely, below(4) == 0 ? 1 : 0};
            case 1: case 2: case 18: return new int[] {op, anyTask()};
            case 3: return new int[] {op, anyTask(), below(43) - 1};
            case 4: return new int[] {op, anyTask(), below(22) - 1};
            case 5: return new int[] {op, below(22) - 1, below(43) - 1};
            case 6: return new int[] {op, below(x.count(0) + 2) - 1, below(10) - 1};
            case 7: return new int[] {op, below(11) - 1};
            case 8: return new int[] {op, anyGroup()};
            case 9:
                int what = below(20) == 0 ? below(7) - 2 : below(4);
                return new int[] {op, anyGroup(), what, value(what)};
            case 10: return new int[] {op, anyGroup(), below(11) - 1};
            case 11: case 12: case 13: return new int[] {op, anyTask(), pages()};
            case 14: return new int[] {op, anyTask(), anyGroup()};
            case 15: return new int[] {op, anyTask(), below(23) - 11};
            case 16: return new int[] {op, below(20) == 0 ? below(204) - 2 : below(9)};
            case 17: return new int[] {op, anyTask(), yes};
            case 19: return new int[] {op, yes, yes == 1 ? anyGroup() : anyTask()};
            case 20:
                int volume = below(11) == 0 ? below(13) - 1 : below(3);
                return new int[] {op, anyTask(), path(), volume, yes};
            case 21: case 22: return new int[] {op, anyTask(), path()};
            case 23:
                int view = below(20) == 0 ? below(14) - 2 : below(x.count(5));
                return new int[] {op, view, below(3) == 0 ? 0 : 1};
            default: return new int[] {op, below(83) - 1, below(7) - 1};
        }
    }

    /** Now and then an argument at one of the limits, beside it, below 0, or far from all. */
    private int[] wild(int[] call) {
        for (int i = 1; i < call.length; i++) {
            if (below(8) == 0) {
                int n = LIMITS[below(LIMITS.length)] + below(3) - 1;
                call[i] = below(4) == 0 ? -n : below(8) == 0 ? (int) (seed >>> 31) : n;
            }
        }
        return call;
    }

    private long answer(int[] c, boolean ofClass) {
        try {
            return ofClass ? ofClass(c) : ofModel(c);
        } catch (RuntimeException e) {
            if (e.getClass() == IndexOutOfBoundsException.class) {
                return INDEX;
            }
            if (e.getClass() == IllegalArgumentException.class) {
                return ARGUMENT;
            }
            throw e;
        }
    }

    private long ofClass(int[] c) {
        switch (c[0]) {
            case 0: return x.fork(c[1], c[2] == 1, c[3] == 1);
            case 1: return x.exit(c[1]);
            case 2: return x.reap(c[1]);
            case 3: return x.kill(c[1], c[2]);
            case 4: return x.number(c[1], c[2]);
            case 5: return x.find(c[1], c[2]);
            case 6: return x.task(c[1], c[2]);
            case 7: return x.count(c[1]);
            case 8: return x.group(c[1]);
            case 9: return x.set(c[1], c[2], c[3]);
            case 10: return x.told(c[1], c[2]);
            case 11: return x.charge(c[1], c[2]);
            case 12: return x.release(c[1], c[2]);
            case 13: return x.cache(c[1], c[2]);
            case 14: return x.move(c[1], c[2]);
            case 15: return x.badness(c[1], c[2]);
            case 16: return x.ticks(c[1]);
            case 17: return x.sleep(c[1], c[2] == 1);
            case 18: return x.ran(c[1]);
            case 19: return x.time(c[1] == 1, c[2]);
            case 20: return x.mount(c[1], c[2], c[3], c[4] == 1);
            case 21: return x.unmount(c[1], c[2]);
            case 22: return x.at(c[1], c[2]);
            case 23: return x.share(c[1], c[2] == 1);
            default: return x.mounted(c[1], c[2]);
        }
    }

    private long ofModel(int[] c) {
        switch (c[0]) {
            case 0: return m.fork(c[1], c[2] == 1, c[3] == 1);
            case 1: return m.exit(c[1]);
            case 2: return m.reap(c[1]);
            case 3: return m.kill(c[1], c[2]);
            case 4: return m.number(c[1], c[2]);
            case 5: return m.find(c[1], c[2]);
            case 6: return m.task(c[1], c[2]);
            case 7: return m.count(c[1]);
            case 8: return m.group(c[1]);
            case 9: return m.set(c[1], c[2], c[3]);
            case 10: return m.told(c[1], c[2]);
            case 11: return m.charge(c[1], c[2]);
            case 12: return m.release(c[1], c[2]);
            case 13: return m.cache(c[1], c[2]);
            case 14: return m.move(c[1], c[2]);
            case 15: return m.badness(c[1], c[2]);
            case 16: return m.ticks(c[1]);
            case 17: return m.sleep(c[1], c[2] == 1);
            case 18: return m.ran(c[1]);
            case 19: return m.time(c[1] == 1, c[2]);
            case 20: return m.mount(c[1], c[2], c[3], c[4] == 1);
            case 21: return m.unmount(c[1], c[2]);
            case 22: return m.at(c[1], c[2]);
            case 23: return m.share(c[1], c[2] == 1);
            default: return m.mounted(c[1], c[2]);
        }
    }

    /** All that can be asked, at the end of a run. */
    private void compareAll(int run) {
        for (int a = -1; a <= 150; a++) {
            same(run, 18, a, 0);
            same(run, 19, 0, a);
            same(run, 19, 1, a);
            for (int b = -1; b <= 9; b++) {
                same(run, 6, a, b);
                same(run, 10, a, b);
                same(run, 24, a, b);
                same(run, 7, b, 0);
            }
            for (int b = -1; b <= 20; b++) {
                same(run, 4, a, b);
            }
            for (int b = 1; b <= 31; b++) {
                same(run, 22, a, b);
            }
        }
        for (int a = -1; a <= 20; a++) {
            for (int b = -1; b <= 41; b++) {
                same(run, 5, a, b);
            }
        }
    }

    private void same(int run, int op, int a, int b) {
        int[] call = {op, a, b};
        long got = answer(call, true);
        long want = answer(call, false);
        if (got != want) {
            Check.fault("run " + run + ", at the end: " + java.util.Arrays.toString(call)
                    + " answered " + got + ", due is " + want);
        }
    }
}
