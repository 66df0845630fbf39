/** Promises 10 to 17: groups. */
public final class GroupsTest {
    public static void main(String[] args) {
        groupIsMade();
        groupGetsItsTime();
        setChanges();
        setRefuses();
        toldTells();
        chargeHolds();
        chargeTakesCaches();
        chargeKillsVictims();
        chargeEndsWithThePayer();
        chargeFails();
        chargeGoesOutwards();
        chargeOfOneTooMany();
        releaseGivesBack();
        cacheStays();
        cacheMakesRoom();
        moveCarriesPages();
        moveRefuses();
        badnessIsSet();
        Check.end();
    }

    private static void groupIsMade() {
        TaskTrees x = new TaskTrees();
        for (int i = 1; i <= 5; i++) {
            Check.due("10: within one another", x.group(i - 1), i);
        }
        Check.due("10: 5 are around it", x.group(5), TaskTrees.FULL);
        for (int i = 6; i <= 19; i++) {
            Check.due("10: groups", x.group(0), i);
        }
        Check.due("10: 20 groups", x.count(4), 20);
        Check.due("10: a 21st", x.group(0), TaskTrees.FULL);
        Check.due("10: none", x.group(20), TaskTrees.NONE);
        Check.due("10: below 0", x.group(-1), TaskTrees.NONE);
        Check.due("10: no more", x.count(4), 20);
        int[] told = {0, 0, 0, 1000000, 150, 100, 0, 0, 4};
        for (int what = 0; what < 9; what++) {
            Check.due("10: told(5, " + what + ")", x.told(5, what), told[what]);
        }
    }

    private static void groupGetsItsTime() {
        TaskTrees x = new TaskTrees();
        x.ticks(3);
        x.group(0);
        Check.due("10: the least time of the ready", x.time(true, 1), 30000);
        x.group(1);
        Check.due("10: none ready there", x.time(true, 2), 0);
        x.sleep(0, true);
        x.group(0);
        Check.due("10: a sleeper does not count", x.time(true, 3), 0);
    }

    private static void setChanges() {
        TaskTrees x = new TaskTrees();
        x.group(0);
        int[] first = {1000000, 150, 100, 0};
        int[] least = {0, 0, 1, 0};
        int[] most = {1000000, 150, 1000, 20};
        for (int what = 0; what < 4; what++) {
            Check.due("11: was first, " + what, x.set(1, what, least[what]), first[what]);
            Check.due("11: was least, " + what, x.set(1, what, most[what]), least[what]);
            Check.due("11: is most, " + what, x.told(1, what + 3), most[what]);
            int w = what;
            Check.argument("11: too much, " + what, () -> x.set(1, w, most[w] + 1));
            Check.argument("11: too little, " + what, () -> x.set(1, w, least[w] - 1));
            Check.argument("11: ahead of NONE, " + what, () -> x.set(9, w, least[w] - 1));
            Check.due("11: no such group", x.set(2, what, most[what]), TaskTrees.NONE);
            Check.due("11: below 0", x.set(-1, what, most[what]), TaskTrees.NONE);
            Check.due("11: not changed, " + what, x.told(1, what + 3), most[what]);
        }
        Check.index("11: what 4", () -> x.set(1, 4, 1));
        Check.index("11: what -1", () -> x.set(1, -1, 1));
        Check.index("11: the first one named", () -> x.set(9, 4, -1));
    }

    private static void setRefuses() {
        TaskTrees x = new TaskTrees();
        x.group(0);
        x.fork(0, false, false);
        x.fork(0, false, false);
        x.move(1, 1);
        x.move(2, 1);
        x.charge(1, 60);
        x.cache(1, 40);
        Check.due("11: it uses more", x.set(1, 0, 99), TaskTrees.LIMIT);
        Check.due("11: just so much", x.set(1, 0, 100), 1000000);
        Check.due("11: it has more tasks", x.set(1, 1, 1), TaskTrees.LIMIT);
        Check.due("11: just so many", x.set(1, 1, 2), 150);
        Check.due("11: around it", x.set(0, 0, 99), TaskTrees.LIMIT);
        Check.due("11: tasks around it", x.set(0, 1, 2), TaskTrees.LIMIT);
        Check.due("11: as it was", x.told(0, 4), 150);
    }

    private static void toldTells() {
        TaskTrees x = new TaskTrees();
        x.group(0);
        x.group(1);
        x.fork(0, false, false);
        x.fork(0, false, false);
        x.move(1, 1);
        x.move(2, 2);
        x.charge(1, 5);
        x.charge(2, 7);
        x.cache(1, 100);
        x.cache(2, 1000);
        x.set(1, 0, 2000);
        x.set(1, 1, 3);
        x.set(1, 2, 4);
        x.set(1, 3, 5);
        x.sleep(0, true);
        x.ticks(3);
        int[] told = {1112, 2, 100, 2000, 3, 4, 5, 3, 0};
        for (int what = 0; what < 9; what++) {
            Check.due("12: told(1, " + what + ")", x.told(1, what), told[what]);
        }
        Check.due("12: within", x.told(2, 0), 1007);
        Check.due("12: within, in", x.told(2, 8), 1);
        Check.due("12: outermost", x.told(0, 8), -1);
        Check.due("12: outermost tasks", x.told(0, 1), 3);
        Check.due("12: no such group", x.told(3, 0), TaskTrees.NONE);
        Check.due("12: below 0", x.told(-1, 0), TaskTrees.NONE);
        Check.index("12: what 9", () -> x.told(0, 9));
        Check.index("12: what -1", () -> x.told(0, -1));
        Check.index("12: ahead of NONE", () -> x.told(9, 9));
    }

    private static void chargeHolds() {
        TaskTrees x = new TaskTrees();
        x.fork(0, false, false);
        Check.due("13: charge", x.charge(1, 10), 10);
        Check.due("13: more", x.charge(1, 5), 15);
        Check.due("13: nothing", x.charge(1, 0), 15);
        Check.due("13: all that there is", x.charge(0, 999985), 999985);
        Check.due("13: used", x.told(0, 0), 1000000);
        Check.due("13: nothing when full", x.charge(0, 0), 999985);
        Check.due("13: live", x.count(1), 2);
        x.release(0, 999985);
        x.release(1, 15);
        Check.due("13: the most at once", x.charge(0, 1000000), 1000000);
        Check.argument("13: below 0", () -> x.charge(0, -1));
        Check.argument("13: too many", () -> x.charge(0, 1000001));
        Check.argument("13: ahead of NONE", () -> x.charge(9, -1));
        Check.due("13: no task", x.charge(2, 1), TaskTrees.NONE);
        Check.due("13: below 0", x.charge(-1, 1), TaskTrees.NONE);
        x.exit(1);
        Check.due("13: not live", x.charge(1, 0), TaskTrees.NONE);
    }

    /** Groups 1 with 2 and 3 in it, tasks 1, 2, 3 in them that may not be killed. */
    private static TaskTrees threeGroups() {
        TaskTrees x = new TaskTrees();
        x.group(0);
        x.group(1);
        x.group(1);
        for (int t = 1; t <= 3; t++) {
            x.fork(0, false, false);
            x.move(t, t);
            x.badness(t, -10);
        }
        return x;
    }

    private static void chargeTakesCaches() {
        TaskTrees x = threeGroups();
        x.set(1, 0, 100);
        x.cache(0, 500);
        x.cache(1, 30);
        x.cache(2, 30);
        x.cache(3, 40);
        Check.due("13: charge", x.charge(1, 25), 25);
        Check.due("13: the most cache goes", x.told(3, 2), 15);
        Check.due("13: others stay", x.told(1, 2) + x.told(2, 2), 60);
        Check.due("13: charge again", x.charge(1, 40), 65);
        Check.due("13: of the same the lower one's, all", x.told(1, 2), 0);
        Check.due("13: then what lacks", x.told(2, 2), 20);
        Check.due("13: the least stays", x.told(3, 2), 15);
        Check.due("13: outside stays", x.told(0, 2), 500);
        Check.due("13: full", x.told(1, 0), 100);
        Check.due("13: all cache goes, then it fails", x.charge(2, 36), TaskTrees.LIMIT);
        Check.due("13: cache is gone", x.told(1, 0), 65);
        Check.due("13: none killed", x.count(8), 0);
    }

    private static void chargeKillsVictims() {
        TaskTrees x = new TaskTrees();
        x.group(0);
        x.group(1);
        x.set(1, 0, 1000);
        for (int t = 1; t <= 6; t++) {
            x.fork(0, false, false);
        }
        x.charge(6, 5000);
        for (int t = 1; t <= 5; t++) {
            x.move(t, t % 2 + 1);
            x.charge(t, 150);
        }
        x.badness(1, 1);
        x.badness(4, -10);
        x.badness(5, -1);
        Check.due("13: charge", x.charge(2, 300), 450);
        Check.due("13: the worst one", x.task(1, 0), 2);
        Check.due("13: room enough", x.count(8), 1);
        x.release(2, 300);
        Check.due("13: cache ahead of victims", x.cache(2, 400), 400);
        Check.due("13: charge again", x.charge(4, 610), 760);
        Check.due("13: cache went", x.told(1, 2), 0);
        Check.due("13: of the same the higher one", x.task(3, 0), 2);
        Check.due("13: then the next", x.task(2, 0), 2);
        Check.due("13: badness below 0 helps", x.task(5, 0), 0);
        Check.due("13: outside is safe", x.task(6, 0), 0);
        Check.due("13: three victims", x.count(8), 3);
        Check.due("13: it may not be killed, it fails", x.charge(4, 900), TaskTrees.LIMIT);
        Check.due("13: what was killed stays killed", x.task(5, 0), 2);
        Check.due("13: not charged", x.task(4, 5), 760);
        Check.due("13: victims", x.count(8), 4);
    }

    private static void chargeEndsWithThePayer() {
        TaskTrees x = new TaskTrees();
        x.group(0);
        x.set(1, 0, 100);
        x.fork(0, false, false);
        x.fork(0, false, false);
        x.move(1, 1);
        x.move(2, 1);
        x.charge(1, 60);
        x.charge(2, 20);
        Check.due("13: the payer is the worst", x.charge(1, 30), TaskTrees.KILLED);
        Check.due("13: all is over", x.task(2, 0), 0);
        Check.due("13: it uses", x.told(1, 0), 20);

        TaskTrees y = new TaskTrees();
        y.group(0);
        y.fork(0, true, false);
        y.fork(1, false, false);
        y.move(1, 1);
        y.move(2, 1);
        y.set(1, 0, 100);
        y.badness(2, -10);
        y.charge(1, 60);
        y.charge(2, 20);
        Check.due("13: killed with its INIT", y.charge(2, 30), TaskTrees.KILLED);
        Check.due("13: one victim", y.count(8), 1);
        Check.due("13: gone", y.task(2, 0), 2);
        Check.due("13: nothing used", y.told(0, 0), 0);
    }

    private static void chargeFails() {
        TaskTrees x = new TaskTrees();
        x.group(0);
        x.fork(0, false, false);
        x.fork(0, false, false);
        x.move(0, 1);
        x.move(1, 1);
        x.set(1, 0, 10);
        Check.due("13: task 0 may not be killed", x.charge(0, 11), TaskTrees.LIMIT);
        Check.due("13: the other one is", x.task(1, 0), 2);
        Check.due("13: outside lives", x.task(2, 0), 0);
        Check.due("13: no pages", x.task(0, 5), 0);
    }

    private static void chargeGoesOutwards() {
        TaskTrees x = new TaskTrees();
        x.group(0);
        x.group(1);
        for (int t = 1; t <= 4; t++) {
            x.fork(0, false, false);
        }
        x.move(1, 2);
        x.move(2, 2);
        x.move(3, 1);
        x.set(1, 0, 200);
        x.set(2, 0, 100);
        x.charge(1, 10);
        x.charge(2, 60);
        x.charge(3, 120);
        Check.due("13: inner, then outer", x.charge(1, 90), 100);
        Check.due("13: its own group first", x.task(2, 0), 2);
        Check.due("13: then around", x.task(3, 0), 2);
        Check.due("13: outside lives", x.task(4, 0), 0);
    }

    /** The least that can lack, and the outermost group's own cache. */
    private static void chargeOfOneTooMany() {
        TaskTrees x = new TaskTrees();
        x.group(0);
        x.fork(0, false, false);
        x.fork(0, false, false);
        x.move(1, 1);
        x.cache(0, 3);
        x.cache(1, 1);
        x.charge(1, 999996);
        Check.due("13: just full", x.told(0, 0), 1000000);
        Check.due("13: one lacks", x.charge(2, 1), 1);
        Check.due("13: group 0's cache", x.told(0, 2), 2);
        x.charge(2, 2);
        Check.due("13: a cache of 1", x.charge(2, 1), 4);
        Check.due("13: it went", x.told(1, 2), 0);
        Check.due("13: no victim", x.count(8), 0);
        Check.due("13: a victim for one page", x.charge(2, 1), 5);
        Check.due("13: it", x.task(1, 0), 2);

        TaskTrees y = new TaskTrees();
        y.set(0, 0, 100);
        for (int t = 1; t <= 3; t++) {
            y.fork(0, false, false);
            y.charge(t, 30);
        }
        Check.due("13: one of three", y.charge(0, 40), 40);
        Check.due("13: the highest", y.task(3, 0), 2);
        Check.due("13: not the lowest", y.task(1, 0), 0);
        Check.due("13: only one", y.count(8), 1);
        Check.due("13: 100 a point", y.badness(1, 1), 1);
        y.release(0, 40);
        y.charge(2, 40);
        Check.due("13: again one", y.charge(0, 10), 10);
        Check.due("13: the bad one", y.task(1, 0), 2);
    }

    private static void releaseGivesBack() {
        TaskTrees x = new TaskTrees();
        x.group(0);
        x.fork(0, false, false);
        x.move(1, 1);
        x.charge(1, 50);
        Check.due("14: release", x.release(1, 20), 30);
        Check.due("14: nothing", x.release(1, 0), 30);
        Check.due("14: used", x.told(1, 0), 30);
        Check.due("14: used around", x.told(0, 0), 30);
        Check.due("14: too many", x.release(1, 31), TaskTrees.LIMIT);
        Check.due("14: far too many", x.release(1, Integer.MAX_VALUE), TaskTrees.LIMIT);
        Check.due("14: all", x.release(1, 30), 0);
        Check.due("14: no task", x.release(2, 0), TaskTrees.NONE);
        Check.due("14: below 0", x.release(-1, 0), TaskTrees.NONE);
        Check.argument("14: n below 0", () -> x.release(1, -1));
        Check.argument("14: ahead of NONE", () -> x.release(9, Integer.MIN_VALUE));
        x.exit(1);
        Check.due("14: not live", x.release(1, 0), TaskTrees.NONE);
    }

    private static void cacheStays() {
        TaskTrees x = new TaskTrees();
        x.group(0);
        x.fork(0, false, false);
        x.move(1, 1);
        Check.due("15: cache", x.cache(1, 30), 30);
        Check.due("15: more", x.cache(1, 12), 42);
        Check.due("15: nothing", x.cache(1, 0), 42);
        Check.due("15: the most at once", x.cache(1, 1000000), 1000000);
        x.charge(1, 999958);
        Check.due("15: taken back", x.release(1, 999958), 0);
        Check.due("15: not the task's", x.task(1, 5), 0);
        Check.due("15: used around", x.told(0, 0), 42);
        Check.due("15: no cache of the one around", x.told(0, 2), 0);
        x.exit(1);
        Check.due("15: it stays", x.told(1, 2), 42);
        Check.due("15: not live", x.cache(1, 1), TaskTrees.NONE);
        Check.due("15: no task", x.cache(2, 1), TaskTrees.NONE);
        Check.argument("15: below 0", () -> x.cache(0, -1));
        Check.argument("15: too many", () -> x.cache(0, 1000001));
        Check.argument("15: ahead of NONE", () -> x.cache(9, -1));
    }

    private static void cacheMakesRoom() {
        TaskTrees x = threeGroups();
        x.set(1, 0, 100);
        x.cache(2, 80);
        Check.due("15: takes another's", x.cache(3, 60), 60);
        Check.due("15: as much as lacks", x.told(2, 2), 40);
        Check.due("15: takes its own", x.cache(3, 50), 60);
        Check.due("15: the other's stays", x.told(2, 2), 40);
        Check.due("15: no room at all", x.cache(1, 101), TaskTrees.LIMIT);
        Check.due("15: caches are gone", x.told(1, 0), 0);
        x.badness(3, 0);
        x.charge(3, 50);
        Check.due("15: a victim", x.cache(1, 60), 60);
        Check.due("15: killed", x.task(3, 0), 2);
        x.badness(2, 10);
        Check.due("15: the payer", x.cache(2, 101), TaskTrees.KILLED);
        Check.due("15: victims", x.count(8), 2);
        Check.due("15: not kept", x.told(1, 0), 0);
    }

    private static void moveCarriesPages() {
        TaskTrees x = threeGroups();
        x.charge(2, 70);
        Check.due("16: move", x.move(2, 3), 1);
        Check.due("16: there", x.task(2, 3), 3);
        Check.due("16: left", x.told(2, 0), 0);
        Check.due("16: left, tasks", x.told(2, 1), 0);
        Check.due("16: come", x.told(3, 0), 70);
        Check.due("16: come, tasks", x.told(3, 1), 2);
        Check.due("16: around both", x.told(1, 0), 70);
        Check.due("16: around both, tasks", x.told(1, 1), 3);
        Check.due("16: out", x.move(2, 0), 1);
        Check.due("16: out, used", x.told(1, 0), 0);
        Check.due("16: it is there", x.move(2, 0), 0);
        Check.due("16: task 0", x.move(0, 2), 1);
        Check.due("16: no task", x.move(4, 0), TaskTrees.NONE);
        Check.due("16: below 0", x.move(-1, 0), TaskTrees.NONE);
        Check.due("16: no group", x.move(1, 4), TaskTrees.NONE);
        Check.due("16: group below 0", x.move(1, -1), TaskTrees.NONE);
        x.exit(1);
        Check.due("16: not live", x.move(1, 2), TaskTrees.NONE);
        Check.due("16: not live, there", x.move(1, 1), TaskTrees.NONE);
    }

    private static void moveRefuses() {
        TaskTrees x = threeGroups();
        x.charge(2, 70);
        x.set(3, 1, 1);
        Check.due("16: too many tasks", x.move(2, 3), TaskTrees.LIMIT);
        x.set(3, 1, 2);
        x.set(3, 0, 69);
        Check.due("16: too many pages", x.move(2, 3), TaskTrees.LIMIT);
        Check.due("16: nothing changed", x.told(2, 0), 70);
        x.set(3, 0, 70);
        x.set(1, 0, 70);
        x.set(1, 1, 3);
        Check.due("16: around both does not matter", x.move(2, 3), 1);
        Check.due("16: to the one around", x.move(2, 1), 1);
        Check.due("16: out", x.move(2, 0), 1);
        x.set(1, 1, 2);
        Check.due("16: tasks of the one around", x.move(2, 2), TaskTrees.LIMIT);
        x.set(1, 1, 3);
        x.set(1, 0, 69);
        Check.due("16: pages of the one around", x.move(2, 2), TaskTrees.LIMIT);
        x.set(1, 0, 70);
        x.cache(1, 1);
        Check.due("16: no cache is taken back", x.move(2, 2), TaskTrees.LIMIT);
        x.set(1, 0, 71);
        Check.due("16: just room", x.move(2, 2), 1);
    }

    private static void badnessIsSet() {
        TaskTrees x = new TaskTrees();
        x.fork(0, false, false);
        Check.due("17: least", x.badness(1, -10), 1);
        Check.due("17: is", x.task(1, 6), -10);
        Check.due("17: most", x.badness(1, 10), 1);
        Check.due("17: the same", x.badness(1, 10), 1);
        Check.due("17: is most", x.task(1, 6), 10);
        Check.due("17: task 0", x.badness(0, 3), 1);
        Check.argument("17: 11", () -> x.badness(1, 11));
        Check.argument("17: -11", () -> x.badness(1, -11));
        Check.argument("17: ahead of NONE", () -> x.badness(9, 11));
        Check.due("17: no task", x.badness(2, 0), TaskTrees.NONE);
        Check.due("17: below 0", x.badness(-1, 0), TaskTrees.NONE);
        x.exit(1);
        Check.due("17: not live", x.badness(1, 0), TaskTrees.NONE);
        Check.due("17: not changed", x.task(1, 6), 10);
    }
}
