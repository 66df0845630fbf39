/**
 * What the document says of all calls: "What is refused changes nothing, but for victims and caches
 * of a charge", "The first one named is thrown, and ahead of all refusals; calls that throw change
 * nothing", and "An object is used for at most 512 calls".
 */
public final class RefusalsTest {
    private static final int NONE = TaskTrees.NONE, FULL = TaskTrees.FULL, LIMIT = TaskTrees.LIMIT;
    private static final int BUSY = TaskTrees.BUSY, KILLED = TaskTrees.KILLED;
    private static final int LEAST = Integer.MIN_VALUE, MOST = Integer.MAX_VALUE;

    public static void main(String[] args) {
        Check.sentence("What is refused changes nothing, but for victims and caches of a charge.");
        notLive();
        noSuchThing();
        limits();
        noNumberIsFull();
        noSpaceIsFull();
        noDepthIsFull();
        noTaskIsFull();
        noViewIsFull();
        noMountIsFull();
        noGroupIsFull();
        answersOfNothing();
        chargesThatFail();
        chargesThatKill();
        Check.sentence("calls that throw change nothing");
        throwing();
        Check.sentence("The first one named is thrown, and ahead of all refusals");
        throwingAheadOfRefusals();
        Check.sentence("An object is used for at most 512 calls after it has been made");
        lastCalls();
        Check.end();
    }

    /**
     * Spaces 0, 1, 2; views 0, 1, 2; groups 0, 1 with 2 in it, 3. Task 3 is a zombie, 6 is gone;
     * 2 and 5 may not be killed; 5 is asleep; groups 1 and 3 are full of tasks.
     */
    private static void busy(TaskTrees x) {
        x.group(0);
        x.group(1);
        x.group(0);
        x.fork(0, true, true);
        x.fork(1, false, false);
        x.fork(1, false, false);
        x.fork(2, true, false);
        x.fork(4, false, false);
        x.exit(3);
        x.fork(0, false, false);
        x.exit(6);
        x.move(2, 1);
        x.move(4, 2);
        x.move(5, 2);
        x.set(1, 0, 300);
        x.set(1, 1, 3);
        x.set(3, 1, 0);
        x.set(2, 2, 50);
        x.set(2, 3, 7);
        x.charge(1, 40);
        x.charge(2, 100);
        x.charge(4, 30);
        x.badness(2, -10);
        x.badness(4, 3);
        x.badness(5, -10);
        x.sleep(5, true);
        x.ticks(23);
        x.share(0, true);
        x.mount(0, 2, 1, true);
        x.mount(1, 2, 2, true);
        x.mount(1, 4, 3, false);
        x.fork(0, false, true);
        x.ticks(2);
    }

    private static void notLive() {
        Twins twins = new Twins(RefusalsTest::busy);
        int[] none = {3, 6, -1, 8, 150, LEAST, MOST};
        for (int t : none) {
            twins.changesNothing("fork " + t, x -> x.fork(t, false, false), NONE);
            twins.changesNothing("fork all new " + t, x -> x.fork(t, true, true), NONE);
            twins.changesNothing("exit " + t, x -> x.exit(t), NONE);
            twins.changesNothing("reap " + t, x -> x.reap(t), NONE);
            twins.changesNothing("kill " + t, x -> x.kill(t, 2), NONE);
            twins.changesNothing("charge " + t, x -> x.charge(t, 500), NONE);
            twins.changesNothing("release " + t, x -> x.release(t, 1), NONE);
            twins.changesNothing("cache " + t, x -> x.cache(t, 500), NONE);
            twins.changesNothing("move " + t, x -> x.move(t, 2), NONE);
            twins.changesNothing("badness " + t, x -> x.badness(t, 5), NONE);
            twins.changesNothing("sleep " + t, x -> x.sleep(t, true), NONE);
            twins.changesNothing("wake " + t, x -> x.sleep(t, false), NONE);
            twins.changesNothing("mount " + t, x -> x.mount(t, 3, 1, true), NONE);
            twins.changesNothing("unmount " + t, x -> x.unmount(t, 4), NONE);
            twins.changesNothing("at " + t, x -> x.at(t, 4), NONE);
        }
        twins.changesNothing("exit 0", x -> x.exit(0), NONE);
    }

    private static void noSuchThing() {
        Twins twins = new Twins(RefusalsTest::busy);
        int[] groups = {-1, 4, 20, LEAST, MOST};
        for (int g : groups) {
            twins.changesNothing("group " + g, x -> x.group(g), NONE);
            twins.changesNothing("set " + g, x -> x.set(g, 0, 999), NONE);
            twins.changesNothing("told " + g, x -> x.told(g, 0), NONE);
            twins.changesNothing("move to " + g, x -> x.move(1, g), NONE);
            twins.changesNothing("time " + g, x -> x.time(true, g), NONE);
        }
        int[] numbers = {0, 6, 40, 41, -1, LEAST, MOST};
        for (int n : numbers) {
            twins.changesNothing("kill number " + n, x -> x.kill(1, n), NONE);
            twins.changesNothing("find " + n, x -> x.find(1, n), NONE);
        }
        int[] paths = {0, -1, 24, LEAST, MOST};
        for (int p : paths) {
            twins.changesNothing("mount at " + p, x -> x.mount(2, p, 1, true), NONE);
            twins.changesNothing("unmount at " + p, x -> x.unmount(7, p), NONE);
            twins.changesNothing("at " + p, x -> x.at(7, p), NONE);
        }
        twins.changesNothing("unmount a root", x -> x.unmount(1, 1), NONE);
        twins.changesNothing("unmount in another directory", x -> x.unmount(1, 5), NONE);
    }

    private static void limits() {
        Twins twins = new Twins(RefusalsTest::busy);
        twins.changesNothing("fork, the own group", x -> x.fork(2, true, true), LIMIT);
        twins.changesNothing("fork, the group around", x -> x.fork(4, true, true), LIMIT);
        twins.changesNothing("set max", x -> x.set(1, 0, 129), LIMIT);
        twins.changesNothing("set max around", x -> x.set(0, 0, 169), LIMIT);
        twins.changesNothing("set most", x -> x.set(1, 1, 2), LIMIT);
        twins.changesNothing("set most of none", x -> x.set(2, 1, 0), LIMIT);
        twins.changesNothing("release", x -> x.release(2, 101), LIMIT);
        twins.changesNothing("release of nothing", x -> x.release(5, 1), LIMIT);
        twins.changesNothing("move, a most of 0", x -> x.move(1, 3), LIMIT);
        twins.changesNothing("move, the group around", x -> x.move(1, 2), LIMIT);
        twins.changesNothing("unmount", x -> x.unmount(1, 2), BUSY);
    }

    private static void noNumberIsFull() {
        Twins twins = new Twins(x -> {
            busy(x);
            for (int i = 8; i <= 41; i++) {
                x.fork(0, false, false);
            }
        });
        twins.changesNothing("no number", x -> x.fork(0, false, false), FULL);
        twins.changesNothing("none for new ones", x -> x.fork(0, true, true), FULL);
        twins.changesNothing("none around", x -> x.fork(1, false, false), FULL);
        twins.changesNothing("none around new ones", x -> x.fork(1, true, true), FULL);
        twins.changesNothing("LIMIT first", x -> x.fork(2, true, true), LIMIT);
        twins.changesNothing("NONE first", x -> x.fork(3, true, true), NONE);
    }

    private static void noSpaceIsFull() {
        Twins twins = new Twins(x -> {
            busy(x);
            for (int i = 3; i <= 19; i++) {
                x.fork(0, true, false);
            }
        });
        twins.changesNothing("no space", x -> x.fork(0, true, false), FULL);
        twins.changesNothing("no space, a new view", x -> x.fork(1, true, true), FULL);
    }

    private static void noDepthIsFull() {
        Twins twins = new Twins(x -> {
            busy(x);
            x.fork(1, true, false);
            x.fork(8, true, false);
            x.fork(9, true, false);
        });
        twins.changesNothing("a fifth space around", x -> x.fork(10, true, false), FULL);
        twins.changesNothing("a fifth, a new view", x -> x.fork(10, true, true), FULL);
    }

    private static void noTaskIsFull() {
        Twins twins = new Twins(x -> {
            x.fork(0, true, false);
            for (int i = 2; i <= 149; i++) {
                x.fork(0, false, false);
                x.exit(i);
            }
        });
        twins.changesNothing("no task", x -> x.fork(0, false, false), FULL);
        twins.changesNothing("no task for new ones", x -> x.fork(0, true, true), FULL);
        twins.changesNothing("no task within", x -> x.fork(1, true, true), FULL);
    }

    private static void noViewIsFull() {
        Twins twins = new Twins(x -> {
            busy(x);
            for (int i = 3; i <= 9; i++) {
                x.fork(0, false, true);
            }
        });
        twins.changesNothing("no view", x -> x.fork(0, false, true), FULL);
        twins.changesNothing("no view, a new space", x -> x.fork(1, true, true), FULL);
    }

    private static void noMountIsFull() {
        Twins all = new Twins(x -> {
            busy(x);
            for (int i = x.count(6); i < 80; i++) {
                x.mount(1, 4, 3, false);
            }
        });
        all.changesNothing("no mount", x -> x.mount(1, 4, 3, true), FULL);
        all.changesNothing("none on peers", x -> x.mount(0, 3, 3, true), FULL);
        all.changesNothing("none for copies", x -> x.fork(0, true, true), FULL);
        Twins one = new Twins(x -> {
            busy(x);
            for (int i = x.count(6); i < 79; i++) {
                x.mount(1, 4, 3, false);
            }
        });
        one.changesNothing("one of two", x -> x.mount(0, 3, 3, true), FULL);
        one.changesNothing("one of two copies", x -> x.fork(0, true, true), FULL);
    }

    private static void noGroupIsFull() {
        Twins all = new Twins(x -> {
            busy(x);
            for (int i = 4; i <= 19; i++) {
                x.group(i % 4);
            }
        });
        all.changesNothing("no group", x -> x.group(0), FULL);
        all.changesNothing("none within", x -> x.group(19), FULL);
        all.changesNothing("none within none", x -> x.group(20), NONE);
        Twins deep = new Twins(x -> {
            busy(x);
            x.group(2);
            x.group(4);
            x.group(5);
        });
        deep.changesNothing("5 are around it", x -> x.group(6), FULL);
    }

    /** No refusals, but the document says that nothing happens. */
    private static void answersOfNothing() {
        Twins twins = new Twins(RefusalsTest::busy);
        twins.changesNothing("reap of no zombie", x -> x.reap(2), 0);
        twins.changesNothing("kill of the own INIT", x -> x.kill(2, 1), 0);
        twins.changesNothing("kill of a zombie", x -> x.kill(1, 3), 0);
        twins.changesNothing("kill of task 0", x -> x.kill(7, 1), 0);
        twins.changesNothing("move to where it is", x -> x.move(2, 1), 0);
        twins.changesNothing("asleep already", x -> x.sleep(5, true), 0);
        twins.changesNothing("awake already", x -> x.sleep(4, false), 0);
        twins.changesNothing("no ticks", x -> x.ticks(0), NONE);
        twins.changesNothing("no pages", x -> x.charge(4, 0), 30);
        twins.changesNothing("no pages back", x -> x.release(4, 0), 30);
        twins.changesNothing("no cache", x -> x.cache(4, 0), 0);
        twins.changesNothing("the same max", x -> x.set(1, 0, 300), 300);
        twins.changesNothing("the same badness", x -> x.badness(4, 3), 1);
        twins.changesNothing("private already", x -> x.share(1, false), 0);
    }

    private static void chargesThatFail() {
        Twins alone = new Twins(x -> {
            busy(x);
            x.badness(4, -10);
        });
        alone.changesNothing("no victim, no cache", x -> x.charge(5, 171), LIMIT);
        alone.changesNothing("for a cache", x -> x.cache(5, 171), LIMIT);
        alone.changesNothing("the most", x -> x.charge(2, 1000000), LIMIT);
        TaskTrees x = new TaskTrees();
        busy(x);
        x.cache(5, 20);
        Check.due("room", x.charge(5, 150), 150);
        Check.due("one too many", x.charge(2, 201), LIMIT);
        Check.due("the cache is taken", x.told(2, 2), 0);
        Check.due("the victim is killed", x.task(4, 0), 1);
        Check.due("it ended the other with it", x.task(5, 0), 2);
        Check.due("used then", x.told(1, 0), 100);
    }

    private static void chargesThatKill() {
        TaskTrees x = new TaskTrees();
        busy(x);
        x.cache(5, 20);
        int[] told = {x.told(0, 0), x.count(0), x.count(1), x.count(6), x.count(7)};
        Check.due("the payer itself", x.charge(4, 171), KILLED);
        Check.due("its cache is gone, and its pages", x.told(0, 0), told[0] - 50);
        Check.due("tasks ever", x.count(0), told[1]);
        Check.due("itself and the one in its space", x.count(1), told[2] - 2);
        Check.due("mounts", x.count(6), told[3]);
        Check.due("ticks", x.count(7), told[4]);
        Check.due("one victim", x.count(8), 1);
    }

    private static void throwing() {
        Twins twins = new Twins(RefusalsTest::busy);
        int[] far = {-1, 99, LEAST, MOST};
        for (int n : far) {
            twins.changesNothing("number " + n, x -> x.number(1, n), Twins.INDEX);
            twins.changesNothing("find " + n, x -> x.find(n, 1), Twins.INDEX);
            twins.changesNothing("task " + n, x -> x.task(1, n), Twins.INDEX);
            twins.changesNothing("count " + n, x -> x.count(n), Twins.INDEX);
            twins.changesNothing("set " + n, x -> x.set(1, n, 1), Twins.INDEX);
            twins.changesNothing("told " + n, x -> x.told(1, n), Twins.INDEX);
            twins.changesNothing("share " + n, x -> x.share(n, true), Twins.INDEX);
            twins.changesNothing("unshare " + n, x -> x.share(n, false), Twins.INDEX);
            twins.changesNothing("mounted " + n, x -> x.mounted(1, n), Twins.INDEX);
            twins.changesNothing("badness " + n, x -> x.badness(1, n == -1 ? -11 : n),
                    Twins.ARGUMENT);
            twins.changesNothing("mount " + n, x -> x.mount(0, 3, n, true), Twins.ARGUMENT);
        }
        int[] pages = {-1, 1000001, LEAST, MOST};
        for (int n : pages) {
            twins.changesNothing("max " + n, x -> x.set(1, 0, n), Twins.ARGUMENT);
            twins.changesNothing("most " + n, x -> x.set(1, 1, n), Twins.ARGUMENT);
            twins.changesNothing("weight " + n, x -> x.set(1, 2, n), Twins.ARGUMENT);
            twins.changesNothing("quota " + n, x -> x.set(1, 3, n), Twins.ARGUMENT);
            twins.changesNothing("charge " + n, x -> x.charge(4, n), Twins.ARGUMENT);
            twins.changesNothing("cache " + n, x -> x.cache(4, n), Twins.ARGUMENT);
            twins.changesNothing("ticks " + n, x -> x.ticks(n), Twins.ARGUMENT);
        }
        twins.changesNothing("weight 0", x -> x.set(1, 2, 0), Twins.ARGUMENT);
        twins.changesNothing("ticks 201", x -> x.ticks(201), Twins.ARGUMENT);
        twins.changesNothing("release -1", x -> x.release(4, -1), Twins.ARGUMENT);
        twins.changesNothing("release far below", x -> x.release(4, LEAST), Twins.ARGUMENT);
    }

    /** With a task, group, path or mount that is not there as well. */
    private static void throwingAheadOfRefusals() {
        TaskTrees x = new TaskTrees();
        busy(x);
        int[] none = {3, 6, -1, 8, LEAST, MOST};
        for (int t : none) {
            Check.argument("charge " + t, () -> x.charge(t, -1));
            Check.argument("charge too many " + t, () -> x.charge(t, 1000001));
            Check.argument("release " + t, () -> x.release(t, -1));
            Check.argument("cache " + t, () -> x.cache(t, -1));
            Check.argument("cache too many " + t, () -> x.cache(t, 1000001));
            Check.argument("badness " + t, () -> x.badness(t, -11));
            Check.argument("badness too much " + t, () -> x.badness(t, 11));
            Check.argument("mount " + t, () -> x.mount(t, 0, -1, true));
            Check.argument("mount, no such volume " + t, () -> x.mount(t, 2, 10, false));
        }
        int[] never = {-1, 8, LEAST, MOST};
        for (int n : never) {
            Check.index("number " + n, () -> x.number(n, 3));
            Check.index("task " + n, () -> x.task(n, 8));
            Check.index("set " + n, () -> x.set(n, 4, 1));
            Check.index("set, all wrong " + n, () -> x.set(n, -1, -1));
            Check.argument("set, a wrong v " + n, () -> x.set(n, 0, 1000001));
            Check.index("told " + n, () -> x.told(n, 9));
            Check.index("mounted " + n, () -> x.mounted(n, 5));
            Check.index("find " + n, () -> x.find(3, n));
        }
        Check.argument("ahead of LIMIT, release", () -> x.release(5, LEAST));
        Check.argument("ahead of LIMIT, charge", () -> x.charge(5, MOST));
        Check.argument("ahead of LIMIT, set", () -> x.set(1, 1, -1));
        Check.argument("ahead of FULL, mount", () -> full().mount(0, 2, 10, false));
    }

    private static TaskTrees full() {
        TaskTrees x = new TaskTrees();
        for (int i = 1; i < 80; i++) {
            x.mount(0, 2, 1, false);
        }
        Check.due("no mount is free", x.mount(0, 2, 1, false), FULL);
        return x;
    }

    /** 512 calls of the dearest kinds, the last as right as the first. */
    private static void lastCalls() {
        TaskTrees x = new TaskTrees();
        x.group(0);
        x.set(1, 2, 1);
        x.fork(0, false, false);
        x.move(1, 1);
        x.sleep(0, true);
        for (int call = 6; call <= 505; call++) {
            Check.due("ticks", x.ticks(200), 1);
        }
        Check.due("call 506", x.count(7), 100000);
        Check.due("call 507", x.ran(1), 100000);
        Check.due("call 508", x.time(false, 1), 1000000000L);
        Check.due("call 509", x.time(true, 1), 100000000000L);
        Check.due("call 510", x.told(1, 7), 0);
        Check.due("call 511", x.fork(1, true, true), 2);
        Check.due("call 512", x.time(false, 2), 1000000000L);
    }
}
