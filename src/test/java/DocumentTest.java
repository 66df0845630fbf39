/**
 * The document from its first line to its last: the sentences that the edge tests do not quote,
 * each with a run that would be answered otherwise if it did not hold.
 */
public final class DocumentTest {
    private static final int NONE = TaskTrees.NONE, FULL = TaskTrees.FULL, LIMIT = TaskTrees.LIMIT;
    private static final int BUSY = TaskTrees.BUSY, KILLED = TaskTrees.KILLED;
    private static final int LEAST = Integer.MIN_VALUE, MOST = Integer.MAX_VALUE;

    public static void main(String[] args) {
        tasksHave();
        spacesLieInOneAnother();
        tasksAreInSpaces();
        heirOfAnInit();
        endsOfASpace();
        killLooksInTheSendersSpace();
        groupsLieInOneAnother();
        membersHaveTimes();
        stepsOfAPath();
        mountedAtAPath();
        unmountedAtAPath();
        refusalsByTheirNumbers();
        noSuchSpaceViewWhat();
        numbersNotAsTold();
        forkAnswers();
        reapAnswers();
        killAnswers();
        findThrows();
        taskTells();
        countThrows();
        groupAnswers();
        setAnswers();
        toldTells();
        chargeThrows();
        ticksThrow();
        mountedAnswers();
        Check.end();
    }

    /** What task(t, 0), task(t, 1), .. tell. */
    private static void tells(String who, TaskTrees x, int t, int... due) {
        for (int what = 0; what < due.length; what++) {
            Check.due(who + ", what " + what, x.task(t, what), due[what]);
        }
    }

    /** The numbers of a task in the spaces 0, 1, .. */
    private static void numbers(String who, TaskTrees x, int t, int... due) {
        for (int space = 0; space < due.length; space++) {
            Check.due(who + ", in space " + space, x.number(t, space), due[space]);
        }
    }

    // ---- tasks

    private static void tasksHave() {
        Check.sentence("each LIVE, a ZOMBIE or GONE, with a PARENT, a SPACE, a GROUP, a VIEW "
                + "(of mounts).");
        TaskTrees x = new TaskTrees();
        x.group(0);
        x.group(0);
        x.fork(0, true, false);
        x.fork(1, false, true);
        x.fork(2, true, true);
        x.move(2, 2);
        tells("the first", x, 0, 0, -1, 0, 0, 0);
        tells("an INIT", x, 1, 0, 0, 1, 0, 0);
        tells("in a group", x, 2, 0, 1, 1, 2, 1);
        tells("in a space of its own", x, 3, 0, 2, 2, 0, 2);
        x.exit(3);
        tells("a zombie", x, 3, 1, 2, 2, 0, 2);
        Check.due("reap", x.reap(2), 3);
        tells("gone", x, 3, 2, -1);
        x.exit(2);
        tells("another zombie", x, 2, 1, 1, 1, 2, 1);
    }

    private static void spacesLieInOneAnother() {
        Check.sentence("SPACES 0 .. 19 lie in one another: 0 is the outermost, others are made "
                + "within one");
        TaskTrees x = new TaskTrees();
        x.fork(0, true, false);
        x.fork(1, true, false);
        x.fork(0, true, false);
        x.fork(3, true, false);
        numbers("space 1 lies in 0", x, 1, 2, 1, 0, 0, 0);
        numbers("space 2 lies in 1", x, 2, 3, 2, 1, 0, 0);
        numbers("space 3 lies in 0", x, 3, 4, 0, 0, 1, 0);
        numbers("space 4 lies in 3", x, 4, 5, 0, 0, 2, 1);
        Check.due("space 2 ends with 1, the others stay", x.exit(1), 2);
        Check.due("space 4 ends with 3", x.exit(3), 2);
    }

    private static void tasksAreInSpaces() {
        Check.sentence("A task is IN its space and in all around it");
        TaskTrees x = new TaskTrees();
        for (int t = 0; t < 4; t++) {
            x.fork(t, true, false);
        }
        x.fork(4, false, false);
        x.fork(2, false, false);
        numbers("in the innermost", x, 5, 6, 5, 4, 3, 2);
        numbers("in one between", x, 6, 7, 6, 5, 0, 0);
        numbers("in the outermost alone", x, 0, 1, 0, 0, 0, 0);
        for (int space = 0; space <= 4; space++) {
            Check.due("found in space " + space, x.find(space, 6 - space), 5);
        }
        Check.due("not behind its own space", x.find(3, 4), NONE);
    }

    /** All children of an INIT end with it, so their heir is seen by nobody. */
    private static void heirOfAnInit() {
        Check.sentence("(that of the space around it, if this is the INIT itself)");
        TaskTrees x = new TaskTrees();
        x.fork(0, true, false);
        x.fork(1, false, false);
        x.fork(2, true, false);
        x.fork(3, false, false);
        Check.due("exit of the inner INIT", x.exit(3), 2);
        tells("itself", x, 3, 1, 2);
        tells("its child", x, 4, 2, -1);
        Check.due("the INIT around has no zombie of it", x.reap(1), 0);
        Check.due("its own parent has it", x.reap(2), 3);
        x.fork(2, true, false);
        x.exit(2);
        Check.due("an INIT's heir is its parent's space's", x.task(5, 1), 1);
        Check.due("it ends", x.exit(5), 1);
        tells("a zombie there", x, 5, 1, 1);
    }

    /** In which order they end is seen by nobody; that they are all of them, and no other, is. */
    private static void endsOfASpace() {
        Check.sentence("If it is the INIT of a space, all tasks of that space, and of those within "
                + "it, that are live, end with it, by their tasks' numbers");
        TaskTrees x = new TaskTrees();
        x.group(0);
        x.fork(0, true, false);
        x.fork(0, false, false);
        x.fork(1, true, false);
        x.fork(3, false, false);
        x.fork(1, false, false);
        x.fork(5, true, false);
        x.fork(2, true, false);
        for (int t = 1; t <= 7; t++) {
            x.move(t, 1);
            x.charge(t, 1 << t);
        }
        Check.due("five of seven", x.exit(1), 5);
        int[] states = {0, 2, 0, 2, 2, 2, 2, 0};
        for (int t = 0; t < states.length; t++) {
            Check.due("task " + t, x.task(t, 0), states[t]);
        }
        Check.due("their pages are given back", x.told(1, 0), (1 << 2) + (1 << 7));
        Check.due("two are left in the group", x.told(1, 1), 2);
        Check.due("and three in all", x.count(1), 3);
    }

    private static void killLooksInTheSendersSpace() {
        Check.sentence("KILL: a live task sends an end to a number of its space");
        TaskTrees x = new TaskTrees();
        x.fork(0, false, false);
        x.fork(0, true, false);
        x.fork(2, false, false);
        x.fork(2, true, false);
        x.fork(4, false, false);
        Check.due("number 4 is nobody's in space 2", x.kill(5, 4), NONE);
        Check.due("number 3 in space 1, an INIT", x.kill(3, 3), 2);
        Check.due("it", x.task(4, 0), 1);
        Check.due("number 2 in space 1", x.kill(2, 2), 1);
        Check.due("it", x.task(3, 0), 1);
        Check.due("number 2 in space 0 lives", x.task(1, 0), 0);
        Check.due("a zombie sends nothing", x.kill(3, 2), NONE);
        Check.due("number 2 in space 0", x.kill(0, 2), 1);
        Check.due("it", x.task(1, 0), 2);
    }

    // ---- groups

    private static void groupsLieInOneAnother() {
        Check.sentence("GROUPS 0 .. 19 lie in one another: 0 is the outermost, others are made "
                + "within one (at most 5 around one).");
        TaskTrees x = new TaskTrees();
        for (int g = 1; g <= 5; g++) {
            Check.due("group " + g, x.group(g - 1), g);
            Check.due("lies in", x.told(g, 8), g - 1);
        }
        Check.due("a sixth around", x.group(5), FULL);
        Check.due("beside the innermost", x.group(4), 6);
        Check.due("lies in", x.told(6, 8), 4);
        Check.due("the outermost lies in none", x.told(0, 8), -1);
        x.fork(0, false, false);
        x.move(1, 5);
        x.charge(1, 7);
        x.move(0, 6);
        x.cache(0, 30);
        int[] uses = {37, 37, 37, 37, 37, 7, 30};
        int[] live = {2, 2, 2, 2, 2, 1, 1};
        for (int g = 0; g < uses.length; g++) {
            Check.due("uses of " + g, x.told(g, 0), uses[g]);
            Check.due("tasks of " + g, x.told(g, 1), live[g]);
        }
    }

    // ---- the clock

    private static void membersHaveTimes() {
        Check.sentence("Each task and each group but 0 is a MEMBER of a group, with a TIME "
                + "(a long).");
        TaskTrees x = new TaskTrees();
        x.group(0);
        x.group(1);
        x.set(1, 2, 1);
        x.set(2, 2, 4);
        x.fork(0, false, false);
        x.move(1, 2);
        x.sleep(0, true);
        for (int i = 0; i < 15; i++) {
            Check.due("it alone is ready", x.ticks(200), 1);
        }
        Check.due("the inner group's time", x.time(true, 2), 750000000L);
        Check.due("the outer group's time, no int", x.time(true, 1), 3000000000L);
        Check.due("the task's time", x.time(false, 1), 30000000L);
        x.fork(0, false, false);
        Check.due("a member of group 0 beside group 1", x.time(false, 2), 3000000000L);
        Check.due("a task runs before a group", x.ticks(1), 2);
        Check.due("its time, no int", x.time(false, 2), 3000010000L);
        x.group(0);
        Check.due("a group that comes", x.time(true, 3), 3000000000L);
        Check.due("group 0 is no member", x.time(true, 0), 0);
    }

    // ---- mounts

    private static void stepsOfAPath() {
        Check.sentence("0 to 2 d + 1, 1 to 2 d + 2");
        TaskTrees x = new TaskTrees();
        for (int p = 1; p <= 15; p++) {
            Check.due("path " + p, x.at(0, p), p - 1);
        }
        for (int p = 16; p <= 31; p++) {
            Check.due("a step from a leaf, path " + p, x.at(0, p), NONE);
        }
        x.mount(0, 13, 6, false);
        int[] within = {0, 1, 2, 3, 4, 5, 6};
        int[] paths = {13, 26, 27, 52, 53, 54, 55};
        for (int i = 0; i < paths.length; i++) {
            Check.due("path " + paths[i], x.at(0, paths[i]), 1120 + within[i]);
        }
    }

    private static void mountedAtAPath() {
        Check.sentence("MOUNTED at a path is a volume in the place of the directory that is come "
                + "to, of the mount in which that is.");
        TaskTrees x = new TaskTrees();
        x.mount(0, 2, 3, false);
        x.mount(0, 4, 4, false);
        x.mount(0, 11, 5, false);
        x.mount(0, 6, 7, false);
        x.mount(0, 2, 8, false);
        int[] in = {-1, 0, 1, 1, 0, 1};
        int[] directory = {0, 1, 1, 6, 5, 0};
        int[] volume = {0, 3, 4, 5, 7, 8};
        for (int m = 0; m < in.length; m++) {
            Check.due("mount " + m + " is in", x.mounted(m, 1), in[m]);
            Check.due("mount " + m + ", directory", x.mounted(m, 2), directory[m]);
            Check.due("mount " + m + ", volume", x.mounted(m, 3), volume[m]);
        }
        Check.due("the one on top", x.at(0, 2), 5160);
        Check.due("within it", x.at(0, 4), 5161);
        Check.due("elsewhere", x.at(0, 6), 4140);
        Check.due("the one on top goes", x.unmount(0, 2), 1);
        Check.due("the one below", x.at(0, 2), 1060);
        Check.due("what is in that", x.at(0, 4), 2080);
        Check.due("and deeper", x.at(0, 11), 3100);
    }

    private static void unmountedAtAPath() {
        Check.sentence("UNMOUNTED at a path is the mount in whose directory 0 one is there");
        TaskTrees x = new TaskTrees();
        x.mount(0, 2, 1, false);
        x.mount(0, 2, 2, false);
        x.mount(0, 3, 3, false);
        Check.due("two, one on the other", x.at(0, 2), 2040);
        Check.due("the one on top", x.unmount(0, 2), 1);
        Check.due("the other stays", x.at(0, 2), 1020);
        Check.due("in its directory 2", x.unmount(0, 5), NONE);
        Check.due("the other", x.unmount(0, 2), 1);
        Check.due("the root's directory 1", x.at(0, 2), 1);
        Check.due("no mount is there", x.unmount(0, 2), NONE);
        Check.due("what is elsewhere stays", x.at(0, 3), 3060);
        Check.due("till it goes", x.unmount(0, 3), 1);
        Check.due("the root alone", x.count(6), 1);
        x.mount(0, 9, 4, false);
        x.mount(0, 18, 5, false);
        Check.due("deep within", x.unmount(0, 18), 1);
        Check.due("it is gone", x.at(0, 18), 1081);
        Check.due("the one around", x.unmount(0, 9), 1);
        Check.due("it is gone, too", x.at(0, 9), 8);
    }

    // ---- what is said of all calls

    private static void refusalsByTheirNumbers() {
        Check.sentence("REFUSALS, answers below 0: -1 NONE (no such task, number, group, path; one "
                + "that is not live), -2 FULL (no room: tasks, spaces, groups, numbers, views, "
                + "mounts), -3 LIMIT, -4 BUSY (as told), -5 KILLED.");
        TaskTrees x = new TaskTrees();
        Check.due("no such task", x.charge(1, 1), -1);
        Check.due("no such number", x.kill(0, 2), -1);
        Check.due("no such group", x.move(0, 1), -1);
        Check.due("no such path", x.at(0, 16), -1);
        x.fork(0, false, false);
        x.exit(1);
        Check.due("not live", x.sleep(1, true), -1);
        for (int i = 0; i < 4; i++) {
            x.fork(i == 0 ? 0 : i + 1, true, false);
            x.group(i);
        }
        Check.due("no room for a space", x.fork(5, true, false), -2);
        x.group(4);
        Check.due("no room for a group", x.group(5), -2);
        Check.due("it has not so many", x.release(0, 1), -3);
        x.mount(0, 2, 1, false);
        x.mount(0, 4, 1, false);
        Check.due("a mount is on it", x.unmount(0, 2), -4);
        x.set(0, 0, 10);
        Check.due("the innermost task itself", x.charge(5, 11), -5);
        Check.due("the others live", x.count(1), 4);
        x.set(0, 1, 4);
        Check.due("the most of tasks", x.fork(0, false, false), -3);
    }

    private static void noSuchSpaceViewWhat() {
        Check.sentence("IndexOutOfBoundsException: there is no such space, view, what.");
        TaskTrees x = new TaskTrees();
        x.fork(0, true, true);
        x.exit(1);
        for (int n : new int[] {2, 19, 20, -1, LEAST, MOST}) {
            Check.index("number in space " + n, () -> x.number(0, n));
            Check.index("find in space " + n, () -> x.find(n, 1));
            Check.index("share of view " + n, () -> x.share(n, true));
        }
        Check.due("a dead space is one", x.find(1, 1), NONE);
        Check.due("a view that no task has is one", x.share(1, true), 0);
        int[] most = {7, 8, 3, 8, 4};
        for (int i = 0; i < most.length; i++) {
            int call = i;
            for (int what : new int[] {most[i] + 1, -1, LEAST, MOST}) {
                Check.index("call " + i + ", what " + what, () -> ofWhat(x, call, what));
            }
            Check.due("call " + i + ", the last what", ofWhat(x, i, most[i]) >= -1 ? 1 : 0, 1);
            Check.due("call " + i + ", the first what", ofWhat(x, i, 0) >= -1 ? 1 : 0, 1);
        }
    }

    /** The calls with a what: task, count, set, told, mounted. */
    private static int ofWhat(TaskTrees x, int call, int what) {
        switch (call) {
            case 0: return x.task(0, what);
            case 1: return x.count(what);
            case 2: return x.set(0, what, 20);
            case 3: return x.told(0, what);
            default: return x.mounted(0, what);
        }
    }

    private static void numbersNotAsTold() {
        Check.sentence("IllegalArgumentException: a number is not as told.");
        TaskTrees x = new TaskTrees();
        for (int n : new int[] {-1, 1000001, LEAST, MOST}) {
            Check.argument("charge " + n, () -> x.charge(0, n));
            Check.argument("cache " + n, () -> x.cache(0, n));
            Check.argument("max " + n, () -> x.set(0, 0, n));
            Check.argument("most " + n, () -> x.set(0, 1, n));
            Check.argument("weight " + n, () -> x.set(0, 2, n));
            Check.argument("quota " + n, () -> x.set(0, 3, n));
            Check.argument("ticks " + n, () -> x.ticks(n));
            Check.argument("volume " + n, () -> x.mount(0, 1, n, false));
        }
        Check.argument("release", () -> x.release(0, -1));
        Check.argument("release of the least", () -> x.release(0, LEAST));
        Check.argument("badness below", () -> x.badness(0, -11));
        Check.argument("badness above", () -> x.badness(0, 11));
        Check.due("a path is no such number", x.mount(0, 0, 1, false), NONE);
        Check.due("nor is a task", x.fork(LEAST, false, false), NONE);
        Check.due("nor a group", x.group(MOST), NONE);
        Check.due("nor a number of a space", x.kill(0, LEAST), NONE);
        Check.due("nor a mount", x.mounted(MOST, 0), NONE);
        Check.due("nor too many pages", x.release(0, MOST), LIMIT);
    }

    // ---- what the promises say beside

    private static void forkAnswers() {
        Check.sentence("FORK: the new task. NONE; LIMIT: a group around, or its own, has its most "
                + "of tasks; FULL.");
        TaskTrees x = new TaskTrees();
        Check.due("the first", x.fork(0, false, false), 1);
        Check.due("the next, of another", x.fork(1, true, true), 2);
        x.exit(2);
        x.exit(1);
        Check.due("no number is used again", x.fork(0, true, false), 3);
        Check.due("of one that is gone", x.fork(1, false, false), NONE);
        Check.due("of one that never was", x.fork(4, false, false), NONE);
        x.set(0, 1, 2);
        Check.due("two are the most", x.fork(3, false, false), LIMIT);
        x.set(0, 1, 3);
        Check.due("three are", x.fork(3, false, false), 4);
        x.set(0, 1, 150);
        for (int i = 0; i < 37; i++) {
            Check.due("up to 40 numbers", x.fork(3, false, false), 5 + i);
        }
        Check.due("no number outside, though inside", x.fork(3, false, false), FULL);
    }

    private static void reapAnswers() {
        Check.sentence("REAP: the number that it had in the task's space; 0 when there is no "
                + "zombie. NONE.");
        TaskTrees x = new TaskTrees();
        x.fork(0, false, false);
        x.fork(1, true, false);
        x.fork(2, true, false);
        x.exit(3);
        Check.due("its number in space 1, not in 0 or 2", x.reap(2), 2);
        Check.due("it had it", x.find(1, 2), NONE);
        Check.due("no other", x.reap(2), 0);
        x.exit(2);
        Check.due("its number in space 0, not in 1", x.reap(1), 3);
        Check.due("a parent of none", x.reap(1), 0);
        Check.due("one that is gone", x.reap(2), NONE);
        Check.due("one that never was", x.reap(4), NONE);
    }

    private static void killAnswers() {
        Check.sentence("KILL: how many tasks are live no more; 0 if it does not end.");
        TaskTrees x = new TaskTrees();
        x.fork(0, false, false);
        x.fork(0, true, false);
        x.fork(2, false, false);
        x.fork(2, false, false);
        x.exit(4);
        Check.due("one", x.kill(1, 2), 1);
        Check.due("it is gone", x.kill(0, 2), NONE);
        Check.due("two live ones, not the zombie", x.kill(0, 3), 2);
        Check.due("task 0", x.kill(0, 1), 0);
        Check.due("one lives", x.count(1), 1);
    }

    private static void findThrows() {
        Check.sentence("The task that has a number in a space; NONE. IndexOutOfBoundsException.");
        TaskTrees x = new TaskTrees();
        x.fork(0, true, false);
        Check.due("the first", x.find(0, 1), 0);
        Check.due("another", x.find(0, 2), 1);
        Check.due("the same inside", x.find(1, 1), 1);
        Check.due("none", x.find(1, 2), NONE);
        Check.index("no such space", () -> x.find(2, 1));
        Check.index("ahead of NONE", () -> x.find(-1, 41));
    }

    private static void taskTells() {
        Check.sentence("1 its parent, 2 space, 3 group, 4 view, 5 pages (0 unless live), 6 its "
                + "badness, 7 whether it is asleep. NONE: there never was such a task. "
                + "IndexOutOfBoundsException.");
        TaskTrees x = new TaskTrees();
        for (int g = 0; g < 6; g++) {
            x.group(0);
        }
        x.fork(0, true, true);
        x.fork(1, true, true);
        x.fork(2, true, true);
        x.move(3, 6);
        x.charge(3, 77);
        x.badness(3, -8);
        tells("awake", x, 3, 0, 2, 3, 6, 3, 77, -8, 0);
        x.sleep(3, true);
        tells("asleep", x, 3, 0, 2, 3, 6, 3, 77, -8, 1);
        tells("its parent", x, 2, 0, 1, 2, 0, 2, 0, 0, 0);
        x.sleep(3, false);
        x.badness(3, 9);
        tells("awake again", x, 3, 0, 2, 3, 6, 3, 77, 9, 0);
        x.exit(3);
        Check.due("no pages", x.task(3, 5), 0);
        for (int what = 0; what <= 7; what++) {
            Check.due("never was", x.task(4, what), NONE);
        }
        Check.index("what 8", () -> x.task(3, 8));
        Check.index("ahead of NONE", () -> x.task(4, -1));
    }

    private static void countThrows() {
        Check.sentence("(each one that was taken so; not the tasks that end with an INIT). "
                + "IndexOutOfBoundsException.");
        TaskTrees x = new TaskTrees();
        x.fork(0, true, false);
        x.fork(1, false, false);
        x.charge(1, 6);
        x.set(0, 0, 10);
        Check.due("an INIT is taken", x.charge(0, 5), 5);
        Check.due("its child ends with it", x.count(1), 1);
        Check.due("one victim", x.count(8), 1);
        x.fork(0, false, false);
        x.exit(3);
        Check.due("an exit takes none", x.count(8), 1);
        Check.index("what 9", () -> x.count(9));
        Check.index("what -1", () -> x.count(-1));
    }

    private static void groupAnswers() {
        Check.sentence("A group within one: its number. NONE;");
        TaskTrees x = new TaskTrees();
        Check.due("the first", x.group(0), 1);
        Check.due("within it", x.group(1), 2);
        Check.due("beside it", x.group(0), 3);
        Check.due("in which", x.told(2, 8), 1);
        Check.due("in which", x.told(3, 8), 0);
        Check.due("within none", x.group(4), NONE);
        Check.due("below 0", x.group(-1), NONE);
        Check.due("four groups", x.count(4), 4);
    }

    private static void setAnswers() {
        Check.sentence("NONE; LIMIT: it uses more, has more tasks.");
        TaskTrees x = new TaskTrees();
        x.group(0);
        for (int what = 0; what < 4; what++) {
            Check.due("no such group, what " + what, x.set(2, what, 7), NONE);
            Check.due("group below 0, what " + what, x.set(-1, what, 7), NONE);
        }
        int[] first = {1000000, 150, 100, 0};
        for (int what = 0; what < 4; what++) {
            Check.due("what it was at first", x.set(1, what, 11 + what), first[what]);
        }
        for (int what = 0; what < 4; what++) {
            Check.due("what it was", x.set(1, what, 11 + what), 11 + what);
            Check.due("what it is", x.told(1, 3 + what), 11 + what);
            Check.due("the other group's", x.told(0, 3 + what), first[what]);
        }
        x.move(0, 1);
        x.charge(0, 3);
        Check.due("it uses more", x.set(1, 0, 2), LIMIT);
        Check.due("it has more tasks", x.set(0, 1, 0), LIMIT);
        Check.due("weights have no such limit", x.set(1, 2, 1), 13);
        Check.due("nor have quotas", x.set(1, 3, 1), 14);
    }

    private static void toldTells() {
        Check.sentence("8 the group that it is in (-1). NONE. IndexOutOfBoundsException.");
        TaskTrees x = new TaskTrees();
        x.group(0);
        x.group(1);
        Check.due("of 0", x.told(0, 8), -1);
        Check.due("of 1", x.told(1, 8), 0);
        Check.due("of 2", x.told(2, 8), 1);
        for (int what = 0; what <= 8; what++) {
            Check.due("no such group", x.told(3, what), NONE);
        }
        Check.index("what 9", () -> x.told(2, 9));
        Check.index("ahead of NONE", () -> x.told(3, -1));
    }

    private static void chargeThrows() {
        Check.sentence("NONE; KILLED; LIMIT. IllegalArgumentException.");
        TaskTrees x = new TaskTrees();
        x.fork(0, false, false);
        x.set(0, 0, 10);
        Check.argument("charge of one too many", () -> x.charge(1, 1000001));
        Check.argument("cache of one too few", () -> x.cache(1, -1));
        Check.argument("charge ahead of NONE", () -> x.charge(2, -1));
        Check.argument("cache ahead of NONE", () -> x.cache(2, 1000001));
        Check.due("no such task's charge", x.charge(2, 1000000), NONE);
        Check.due("no such task's cache", x.cache(2, 1000000), NONE);
        Check.due("task 0 is no victim", x.task(0, 0), 0);
        Check.due("the payer is", x.cache(1, 11), KILLED);
        Check.due("none is left", x.charge(0, 11), LIMIT);
        Check.due("for a cache, too", x.cache(0, 11), LIMIT);
        Check.due("just room", x.charge(0, 10), 10);
    }

    private static void ticksThrow() {
        Check.sentence("So many ticks (0 .. 200): the task that ran in the last one; NONE (none "
                + "did, or no tick). IllegalArgumentException.");
        TaskTrees x = new TaskTrees();
        Check.argument("-1", () -> x.ticks(-1));
        Check.argument("201", () -> x.ticks(201));
        Check.due("none of these ran", x.ran(0), 0);
        Check.due("0", x.ticks(0), NONE);
        Check.due("200", x.ticks(200), 0);
        Check.due("all of these ran", x.ran(0), 200);
        x.sleep(0, true);
        Check.due("none does", x.ticks(1), NONE);
        Check.due("ticks", x.count(7), 201);
    }

    private static void mountedAnswers() {
        Check.sentence("3 its volume, 4 its peer number. NONE. IndexOutOfBoundsException.");
        TaskTrees x = new TaskTrees();
        x.share(0, true);
        x.mount(0, 3, 9, true);
        Check.due("volume of the root", x.mounted(0, 3), 0);
        Check.due("peer number of the root", x.mounted(0, 4), 1);
        Check.due("its volume", x.mounted(1, 3), 9);
        Check.due("its peer number", x.mounted(1, 4), 2);
        for (int what = 0; what <= 4; what++) {
            Check.due("no such mount", x.mounted(2, what), NONE);
        }
        Check.index("what 5", () -> x.mounted(1, 5));
        Check.index("ahead of NONE", () -> x.mounted(2, -1));
        Check.due("busy", x.mount(0, 6, 1, false), 2);
        Check.due("refused", x.unmount(0, 3), BUSY);
    }
}
