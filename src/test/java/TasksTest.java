/** Promises 1 to 9: tasks and spaces. */
public final class TasksTest {
    public static void main(String[] args) {
        newObject();
        forkAnswers();
        forkGivesNumbers();
        forkRefusesLimitAheadOfFull();
        forkIsFull();
        forkRefusedChangesNothing();
        exitOfOne();
        exitOfInit();
        exitDropsZombiesOfTaskZero();
        exitGivesPagesBack();
        reapTakesTheLeastNumber();
        killEnds();
        numberAndFind();
        taskTells();
        countTells();
        Check.end();
    }

    private static void newObject() {
        TaskTrees x = new TaskTrees();
        int[] told = {0, -1, 0, 0, 0, 0, 0, 0};
        for (int what = 0; what < 8; what++) {
            Check.due("1: task(0, " + what + ")", x.task(0, what), told[what]);
        }
        int[] counts = {1, 1, 0, 1, 1, 1, 1, 0, 0};
        for (int what = 0; what < 9; what++) {
            Check.due("1: count(" + what + ")", x.count(what), counts[what]);
        }
        int[] group = {0, 1, 0, 1000000, 150, 100, 0, 0, -1};
        for (int what = 0; what < 9; what++) {
            Check.due("1: told(0, " + what + ")", x.told(0, what), group[what]);
        }
        int[] root = {0, -1, 0, 0, 0};
        for (int what = 0; what < 5; what++) {
            Check.due("1: mounted(0, " + what + ")", x.mounted(0, what), root[what]);
        }
        Check.due("1: number(0, 0)", x.number(0, 0), 1);
        Check.due("1: find(0, 1)", x.find(0, 1), 0);
        Check.due("1: at(0, 1)", x.at(0, 1), 0);
        Check.due("1: time(false, 0)", x.time(false, 0), 0);
        Check.due("1: ran(0)", x.ran(0), 0);
    }

    private static void forkAnswers() {
        TaskTrees x = new TaskTrees();
        x.group(0);
        Check.due("2: fork(0)", x.fork(0, false, false), 1);
        x.move(1, 1);
        x.badness(1, 5);
        x.charge(1, 40);
        x.sleep(1, true);
        Check.due("2: fork(1, space and view)", x.fork(1, true, true), 2);
        int[] told = {0, 1, 1, 1, 1, 0, 0, 0};
        for (int what = 0; what < 8; what++) {
            Check.due("2: task(2, " + what + ")", x.task(2, what), told[what]);
        }
        Check.due("2: fork(2)", x.fork(2, false, false), 3);
        Check.due("2: child's space", x.task(3, 2), 1);
        Check.due("2: child's view", x.task(3, 4), 1);
        Check.due("2: no such task", x.fork(4, false, false), TaskTrees.NONE);
        Check.due("2: below 0", x.fork(-1, false, false), TaskTrees.NONE);
        Check.due("2: far", x.fork(Integer.MAX_VALUE, true, true), TaskTrees.NONE);
        x.exit(3);
        Check.due("2: a zombie", x.task(3, 0), 1);
        Check.due("2: a zombie forks", x.fork(3, false, false), TaskTrees.NONE);
    }

    private static void forkGivesNumbers() {
        TaskTrees x = new TaskTrees();
        x.fork(0, true, false);
        for (int i = 2; i <= 39; i++) {
            Check.due("2: fork(1)", x.fork(1, false, false), i);
        }
        Check.due("2: last number outside", x.number(39, 0), 40);
        Check.due("2: last number inside", x.number(39, 1), 39);
        x.exit(5);
        Check.due("2: a zombie keeps its number", x.fork(1, false, false), TaskTrees.FULL);
        Check.due("2: reap", x.reap(1), 5);
        Check.due("2: fork into the hole", x.fork(1, false, false), 40);
        Check.due("2: behind 40 comes 1", x.number(40, 0), 6);
        Check.due("2: inside it goes on", x.number(40, 1), 40);
        x.exit(3);
        x.exit(7);
        x.reap(1);
        x.reap(1);
        x.fork(1, false, false);
        Check.due("2: behind the one given last", x.number(41, 0), 8);
        Check.due("2: behind 40, the first hole", x.number(41, 1), 3);
    }

    private static void forkRefusesLimitAheadOfFull() {
        TaskTrees x = new TaskTrees();
        x.group(0);
        x.group(1);
        x.fork(0, false, false);
        x.move(1, 2);
        x.set(1, 1, 1);
        Check.due("2: the group around has its most", x.fork(1, false, false), TaskTrees.LIMIT);
        x.set(1, 1, 150);
        x.set(2, 1, 1);
        Check.due("2: its own has its most", x.fork(1, false, false), TaskTrees.LIMIT);
        Check.due("2: another group's child", x.fork(0, false, false), 2);
        x.set(2, 1, 2);
        Check.due("2: one more", x.fork(1, false, false), 3);
        x.exit(3);
        Check.due("2: only live ones count", x.fork(1, false, false), 4);
        for (int i = 5; i <= 40; i++) {
            x.fork(0, false, false);
        }
        Check.due("2: LIMIT comes ahead of FULL", x.fork(1, false, false), TaskTrees.LIMIT);
        Check.due("2: FULL without LIMIT", x.fork(0, false, false), TaskTrees.FULL);
    }

    private static void forkIsFull() {
        TaskTrees x = new TaskTrees();
        for (int i = 1; i <= 4; i++) {
            Check.due("2: a space within", x.fork(i - 1, true, false), i);
        }
        Check.due("2: a fifth around", x.fork(4, true, false), TaskTrees.FULL);
        Check.due("2: no space, no matter", x.fork(4, false, false), 5);
        for (int i = 6; i <= 20; i++) {
            Check.due("2: spaces", x.fork(0, true, false), i);
        }
        Check.due("2: 20 spaces", x.count(3), 20);
        Check.due("2: a 21st", x.fork(0, true, false), TaskTrees.FULL);

        TaskTrees y = new TaskTrees();
        for (int i = 1; i <= 149; i++) {
            Check.due("2: tasks", y.fork(0, false, false), i);
            y.exit(i);
        }
        Check.due("2: 150 tasks ever", y.count(0), 150);
        Check.due("2: a 151st", y.fork(0, false, false), TaskTrees.FULL);

        TaskTrees z = new TaskTrees();
        for (int i = 1; i <= 9; i++) {
            Check.due("2: views", z.fork(0, false, true), i);
        }
        Check.due("2: an 11th view", z.fork(0, false, true), TaskTrees.FULL);
        Check.due("2: no view, no matter", z.fork(0, false, false), 10);

        TaskTrees w = new TaskTrees();
        int path = 1;
        for (int i = 0; i < 40; i++) {
            w.mount(0, path, 1, false);
        }
        Check.due("2: 41 mounts", w.count(6), 41);
        Check.due("2: no room for copies", w.fork(0, true, true), TaskTrees.FULL);
        w.unmount(0, path);
        Check.due("2: just room", w.fork(0, true, true), 1);
        Check.due("2: all 80", w.count(6), 80);

        TaskTrees v = new TaskTrees();
        v.fork(0, false, true);
        for (int i = 0; i < 39; i++) {
            v.mount(0, path, 1, false);
        }
        Check.due("2: 40 mounts in a view, 41 in all", v.count(6), 41);
        Check.due("2: one is too many", v.fork(0, false, true), TaskTrees.FULL);
        Check.due("2: another view's", v.fork(1, false, true), 2);
    }

    private static void forkRefusedChangesNothing() {
        TaskTrees x = new TaskTrees();
        for (int i = 1; i <= 39; i++) {
            x.fork(0, false, false);
        }
        Check.due("2: no number", x.fork(0, true, true), TaskTrees.FULL);
        int[] counts = {40, 40, 0, 1, 1, 1, 1, 0, 0};
        for (int what = 0; what < 9; what++) {
            Check.due("2: refused, count(" + what + ")", x.count(what), counts[what]);
        }
        x.exit(9);
        x.fork(0, false, false);
        Check.due("2: the number that is free", x.number(40, 0), 10);
        x.exit(40);
        x.fork(0, false, false);
        Check.due("2: the one given last, all others are held", x.number(41, 0), 10);
        x.exit(39);
        Check.due("2: number 40 is free again", x.find(0, 40), TaskTrees.NONE);
        x.fork(0, false, false);
        Check.due("2: number 40", x.number(42, 0), 40);
    }

    private static void exitOfOne() {
        TaskTrees x = new TaskTrees();
        x.fork(0, true, false);
        x.fork(1, false, false);
        x.fork(2, false, false);
        x.fork(2, true, false);
        x.fork(3, false, false);
        x.exit(3);
        Check.due("3: child of one that ended", x.task(5, 1), 1);
        Check.due("3: zombie's parent", x.task(3, 1), 2);
        Check.due("3: exit(2)", x.exit(2), 1);
        Check.due("3: zombie", x.task(2, 0), 1);
        Check.due("3: its zombie child's parent", x.task(3, 1), 1);
        Check.due("3: its inner child's parent", x.task(4, 1), 1);
        Check.due("3: exit again", x.exit(2), TaskTrees.NONE);
        Check.due("3: exit(0)", x.exit(0), TaskTrees.NONE);
        Check.due("3: exit(6)", x.exit(6), TaskTrees.NONE);
        Check.due("3: exit(-1)", x.exit(-1), TaskTrees.NONE);
        Check.due("3: zombies", x.count(2), 2);
        Check.due("3: live", x.count(1), 4);
    }

    private static void exitOfInit() {
        TaskTrees x = new TaskTrees();
        x.fork(0, false, false);
        x.fork(1, true, false);
        x.fork(2, false, false);
        x.fork(3, true, false);
        x.fork(4, false, false);
        x.fork(2, false, false);
        x.exit(6);
        Check.due("3: a zombie in the space", x.task(6, 0), 1);
        Check.due("3: exit of the INIT", x.exit(2), 4);
        Check.due("3: itself a zombie", x.task(2, 0), 1);
        Check.due("3: of its parent", x.task(2, 1), 1);
        for (int t = 3; t <= 6; t++) {
            Check.due("3: gone with it, " + t, x.task(t, 0), 2);
            Check.due("3: no parent, " + t, x.task(t, 1), -1);
            Check.due("3: no number, " + t, x.number(t, 0), 0);
        }
        Check.due("3: its number there", x.find(1, 1), 2);
        Check.due("3: nobody else there", x.find(1, 2), TaskTrees.NONE);
        Check.due("3: inner INIT gone", x.find(2, 1), TaskTrees.NONE);
        Check.due("3: spaces stay counted", x.count(3), 3);
        Check.due("3: live", x.count(1), 2);
        Check.due("3: no mercy twice", x.exit(4), TaskTrees.NONE);

        TaskTrees y = new TaskTrees();
        y.fork(0, true, false);
        y.fork(1, true, false);
        y.fork(1, false, false);
        Check.due("3: an inner INIT alone", y.exit(2), 1);
        Check.due("3: the outer ones live", y.count(1), 3);
    }

    private static void exitDropsZombiesOfTaskZero() {
        TaskTrees x = new TaskTrees();
        x.fork(0, false, false);
        x.fork(1, false, false);
        x.fork(1, false, false);
        x.exit(2);
        Check.due("3: zombie of a live parent", x.task(2, 0), 1);
        Check.due("3: exit(1)", x.exit(1), 1);
        Check.due("3: child of task 0 gone at once", x.task(1, 0), 2);
        Check.due("3: the zombie that task 0 gets, too", x.task(2, 0), 2);
        Check.due("3: without parent", x.task(2, 1), -1);
        Check.due("3: the live child's parent", x.task(3, 1), 0);
        Check.due("3: no zombies", x.count(2), 0);
        Check.due("3: its number is free", x.find(0, 2), TaskTrees.NONE);
    }

    private static void exitGivesPagesBack() {
        TaskTrees x = new TaskTrees();
        x.group(0);
        x.fork(0, true, false);
        x.fork(1, false, false);
        x.move(2, 1);
        x.charge(1, 30);
        x.charge(2, 50);
        Check.due("3: used", x.told(0, 0), 80);
        x.exit(2);
        Check.due("3: zombie's pages", x.task(2, 5), 0);
        Check.due("3: given back to its group", x.told(1, 0), 0);
        Check.due("3: and around", x.told(0, 0), 30);
        Check.due("3: live in the group", x.told(1, 1), 0);
        Check.due("3: zombie keeps its group", x.task(2, 3), 1);
        x.exit(1);
        Check.due("3: all given back", x.told(0, 0), 0);
    }

    private static void reapTakesTheLeastNumber() {
        TaskTrees x = new TaskTrees();
        x.fork(0, true, false);
        x.fork(1, false, false);
        x.fork(1, true, false);
        x.fork(1, false, false);
        x.fork(2, false, false);
        x.exit(4);
        x.exit(3);
        x.exit(5);
        Check.due("4: its own children alone", x.reap(1), 3);
        Check.due("4: gone", x.task(3, 0), 2);
        Check.due("4: the next", x.reap(1), 4);
        Check.due("4: none left", x.reap(1), 0);
        Check.due("4: another's child", x.task(5, 0), 1);
        Check.due("4: its parent reaps it", x.reap(2), 5);
        Check.due("4: task 0 has none", x.reap(0), 0);
        Check.due("4: gone task", x.reap(4), TaskTrees.NONE);
        Check.due("4: no task", x.reap(6), TaskTrees.NONE);
        Check.due("4: below 0", x.reap(-1), TaskTrees.NONE);

        TaskTrees y = new TaskTrees();
        y.fork(0, true, false);
        for (int i = 0; i < 38; i++) {
            y.fork(1, false, false);
        }
        y.exit(2);
        y.reap(1);
        y.fork(1, false, false);
        y.exit(39);
        y.exit(40);
        Check.due("4: the number in its own space, 39", y.reap(1), 39);
        Check.due("4: then 40", y.reap(1), 40);
        y.fork(1, false, false);
        y.exit(41);
        y.exit(30);
        Check.due("4: least number, not least task", y.reap(1), 2);
        Check.due("4: then the other", y.reap(1), 30);
        y.exit(31);
        Check.due("4: a zombie parent", y.reap(31), TaskTrees.NONE);
    }

    private static void killEnds() {
        TaskTrees x = new TaskTrees();
        x.fork(0, false, false);
        x.fork(1, true, false);
        x.fork(2, false, false);
        x.fork(3, true, false);
        x.fork(4, false, false);
        Check.due("5: own INIT", x.kill(3, 1), 0);
        Check.due("5: INIT itself", x.kill(2, 1), 0);
        Check.due("5: task 0", x.kill(1, 1), 0);
        Check.due("5: no such number", x.kill(3, 5), TaskTrees.NONE);
        Check.due("5: 0", x.kill(3, 0), TaskTrees.NONE);
        Check.due("5: 40", x.kill(3, 40), TaskTrees.NONE);
        Check.due("5: 41", x.kill(3, 41), TaskTrees.NONE);
        Check.due("5: below 0", x.kill(3, Integer.MIN_VALUE), TaskTrees.NONE);
        Check.due("5: no such task", x.kill(6, 1), TaskTrees.NONE);
        Check.due("5: itself", x.kill(5, 2), 1);
        Check.due("5: a zombie there", x.kill(4, 2), 0);
        Check.due("5: not live", x.kill(5, 1), TaskTrees.NONE);
        Check.due("5: another space's INIT, by its number here", x.kill(2, 3), 1);
        Check.due("5: a zombie INIT", x.kill(2, 3), 0);
        Check.due("5: from outside, with all in it", x.kill(1, 3), 2);
        Check.due("5: live", x.count(1), 2);
    }

    private static void numberAndFind() {
        TaskTrees x = new TaskTrees();
        x.fork(0, true, false);
        x.fork(0, true, false);
        x.fork(1, false, false);
        Check.due("6: in its space", x.number(3, 1), 2);
        Check.due("6: around it", x.number(3, 0), 4);
        Check.due("6: not in it", x.number(3, 2), 0);
        Check.due("6: outer task", x.number(0, 1), 0);
        Check.due("6: no task", x.number(4, 0), TaskTrees.NONE);
        Check.due("6: below 0", x.number(-1, 0), TaskTrees.NONE);
        Check.index("6: no space", () -> x.number(0, 3));
        Check.index("6: space below 0", () -> x.number(0, -1));
        Check.index("6: ahead of NONE", () -> x.number(99, 20));
        Check.due("7: find", x.find(1, 2), 3);
        Check.due("7: find outside", x.find(0, 4), 3);
        Check.due("7: nobody", x.find(1, 3), TaskTrees.NONE);
        Check.due("7: number 0", x.find(1, 0), TaskTrees.NONE);
        Check.due("7: number 40", x.find(1, 40), TaskTrees.NONE);
        Check.due("7: number 41", x.find(1, 41), TaskTrees.NONE);
        Check.due("7: number below 0", x.find(1, -5), TaskTrees.NONE);
        Check.index("7: no space", () -> x.find(3, 1));
        Check.index("7: below 0", () -> x.find(-1, 1));
        x.exit(3);
        Check.due("6: a zombie's", x.number(3, 0), 4);
        Check.due("7: a zombie", x.find(1, 2), 3);
        x.reap(1);
        Check.due("6: gone", x.number(3, 0), 0);
        Check.due("6: gone, inside", x.number(3, 1), 0);
        Check.due("7: gone", x.find(1, 2), TaskTrees.NONE);
    }

    private static void taskTells() {
        TaskTrees x = new TaskTrees();
        x.group(0);
        x.fork(0, true, true);
        x.fork(1, false, false);
        x.move(2, 1);
        x.charge(2, 77);
        x.badness(2, -3);
        x.sleep(2, true);
        int[] live = {0, 1, 1, 1, 1, 77, -3, 1};
        for (int what = 0; what < 8; what++) {
            Check.due("8: task(2, " + what + ")", x.task(2, what), live[what]);
        }
        x.exit(2);
        int[] zombie = {1, 1, 1, 1, 1, 0, -3, 1};
        for (int what = 0; what < 8; what++) {
            Check.due("8: zombie, " + what, x.task(2, what), zombie[what]);
        }
        x.reap(1);
        int[] gone = {2, -1, 1, 1, 1, 0, -3, 1};
        for (int what = 0; what < 8; what++) {
            Check.due("8: gone, " + what, x.task(2, what), gone[what]);
        }
        Check.due("8: never was", x.task(3, 0), TaskTrees.NONE);
        Check.due("8: below 0", x.task(-1, 7), TaskTrees.NONE);
        Check.index("8: what 8", () -> x.task(0, 8));
        Check.index("8: what -1", () -> x.task(0, -1));
        Check.index("8: ahead of NONE", () -> x.task(99, 8));
    }

    private static void countTells() {
        TaskTrees x = new TaskTrees();
        x.group(0);
        x.group(1);
        x.set(1, 0, 10);
        x.fork(0, true, true);
        x.fork(1, false, false);
        x.fork(1, true, false);
        x.fork(3, false, false);
        x.fork(1, false, false);
        x.exit(5);
        x.move(3, 1);
        x.charge(3, 10);
        x.move(2, 2);
        x.badness(2, -10);
        x.mount(0, 2, 1, false);
        x.ticks(3);
        x.charge(2, 10);
        int[] counts = {6, 3, 2, 3, 3, 2, 3, 3, 1};
        for (int what = 0; what < 9; what++) {
            Check.due("9: count(" + what + ")", x.count(what), counts[what]);
        }
        Check.index("9: what 9", () -> x.count(9));
        Check.index("9: what -1", () -> x.count(-1));
    }
}
