/**
 * The edges that the document names for charges and caches (Terms, promises 13 and 15): a test for
 * each sentence, at the edge and on both sides of it.
 */
public final class ChargeEdgesTest {
    private static final int NONE = TaskTrees.NONE, LIMIT = TaskTrees.LIMIT;
    private static final int KILLED = TaskTrees.KILLED;
    private static final int LEAST = Integer.MIN_VALUE, MOST = Integer.MAX_VALUE;

    public static void main(String[] args) {
        chargeArguments();
        chargeOfTheLive();
        eachGroupHasRoom();
        maxOfTheOutermost();
        maxOfNothing();
        cacheWithinReach();
        mostCacheGoes();
        asMuchAsLacks();
        mostCacheByThen();
        cachesOfAllGroups();
        cacheAheadOfVictims();
        victimByPagesAndBadness();
        victimOfTheSame();
        victimsThatMayNotBe();
        victimsWithoutPages();
        victimsOutsideAreSafe();
        victimsWithin();
        victimsTillThereIsRoom();
        victimsTillNoneIsLeft();
        victimsOfAllNumbers();
        victimThatIsAnInit();
        outwards();
        outwardsNoFurther();
        failsNoFurther();
        payerIsKilled();
        payerIsTheLast();
        payerEndsWithItsInit();
        cacheArguments();
        cacheOfTheLive();
        cacheUpToTheMax();
        cacheTakesCaches();
        cacheKills();
        cacheStays();
        Check.end();
    }

    /** Groups 1 to 5, each within the one before; task 1 in the innermost; -10 is its badness. */
    private static TaskTrees chain() {
        TaskTrees x = new TaskTrees();
        for (int g = 0; g < 5; g++) {
            x.group(g);
        }
        x.fork(0, false, false);
        x.move(1, 5);
        x.badness(1, -10);
        return x;
    }

    /** Group 1 with groups 2, 3, 4 in it; tasks 1 to 4 in them, who may not be killed. */
    private static TaskTrees brothers() {
        TaskTrees x = new TaskTrees();
        x.group(0);
        x.group(1);
        x.group(1);
        x.group(1);
        for (int t = 1; t <= 4; t++) {
            x.fork(0, false, false);
            x.move(t, t);
            x.badness(t, -10);
        }
        return x;
    }

    /** Tasks 1, 2, .. with these pages in group 1, whose max is what they use. */
    private static TaskTrees payers(int... pages) {
        TaskTrees x = new TaskTrees();
        x.group(0);
        for (int t = 1; t <= pages.length; t++) {
            x.fork(0, false, false);
            x.move(t, 1);
            x.charge(t, pages[t - 1]);
        }
        x.set(1, 0, x.told(1, 0));
        return x;
    }

    private static void chargeArguments() {
        Check.sentence("CHARGE of 0 .. 1000000 pages: the task's pages then.");
        TaskTrees x = chain();
        Check.due("0", x.charge(1, 0), 0);
        Check.due("1", x.charge(1, 1), 1);
        Check.due("999999", x.charge(1, 999999), 1000000);
        Check.due("0 when all is used", x.charge(1, 0), 1000000);
        x.release(1, 1000000);
        Check.due("1000000", x.charge(1, 1000000), 1000000);
        int[] wrong = {-1, 1000001, LEAST, MOST};
        for (int n : wrong) {
            Check.argument("n " + n, () -> x.charge(1, n));
            Check.argument("n " + n + " of no task", () -> x.charge(2, n));
            Check.argument("n " + n + " of task -1", () -> x.charge(-1, n));
        }
        Check.due("as before", x.task(1, 5), 1000000);
        Check.due("no victims", x.count(8), 0);
    }

    private static void chargeOfTheLive() {
        Check.sentence("CHARGE: a live task gets n pages more.");
        TaskTrees x = new TaskTrees();
        x.fork(0, true, false);
        x.fork(1, false, false);
        Check.due("live", x.charge(2, 3), 3);
        Check.due("more", x.charge(2, 4), 7);
        x.exit(2);
        Check.due("a zombie", x.charge(2, 1), NONE);
        Check.due("a zombie, nothing", x.charge(2, 0), NONE);
        x.reap(1);
        Check.due("gone", x.charge(2, 1), NONE);
        int[] never = {-1, 3, 150, LEAST, MOST};
        for (int t : never) {
            Check.due("charge(" + t + ")", x.charge(t, 1), NONE);
        }
        Check.due("task 0", x.charge(0, 5), 5);
        Check.due("used", x.told(0, 0), 5);
    }

    private static void eachGroupHasRoom() {
        Check.sentence("Of the groups from its own outwards each must have room");
        for (int limited = 0; limited <= 5; limited++) {
            TaskTrees x = chain();
            x.set(limited, 0, 100);
            Check.due("one too many at once, " + limited, x.charge(1, 101), LIMIT);
            Check.due("nothing was charged", x.told(0, 0), 0);
            Check.due("one below, " + limited, x.charge(1, 99), 99);
            Check.due("two more, " + limited, x.charge(1, 2), LIMIT);
            Check.due("the last one, " + limited, x.charge(1, 1), 100);
            Check.due("one too many, " + limited, x.charge(1, 1), LIMIT);
            Check.due("nothing more, " + limited, x.charge(1, 0), 100);
            for (int g = 0; g <= 5; g++) {
                Check.due("used by " + g, x.told(g, 0), 100);
            }
        }
    }

    private static void maxOfTheOutermost() {
        Check.sentence("No group uses more than its max");
        TaskTrees x = chain();
        x.charge(0, 600000);
        x.cache(0, 100000);
        x.cache(1, 100000);
        Check.due("all that is left", x.charge(1, 200000), 200000);
        Check.due("the max is used", x.told(0, 0), 1000000);
        Check.due("one more, of a cache", x.charge(1, 1), 200001);
        Check.due("not more than that", x.told(0, 0), 1000000);
        Check.due("all caches go, in vain", x.charge(1, 200000), LIMIT);
        Check.due("used then", x.told(0, 0), 800001);
        Check.due("just what is left", x.charge(1, 199999), 400000);
    }

    private static void maxOfNothing() {
        Check.sentence("A group's max (what = 0; 0 .. 1000000)");
        TaskTrees x = chain();
        x.set(3, 0, 0);
        Check.due("nothing", x.charge(1, 0), 0);
        Check.due("one", x.charge(1, 1), LIMIT);
        Check.due("a cache of nothing", x.cache(1, 0), 0);
        Check.due("a cache of one", x.cache(1, 1), LIMIT);
        Check.due("another group's task", x.charge(0, 1), 1);
    }

    private static void cacheWithinReach() {
        Check.sentence("first cache goes, of the groups in it (itself, too)");
        TaskTrees x = brothers();
        x.cache(0, 500);
        x.cache(1, 10);
        x.cache(3, 5);
        x.charge(4, 20);
        x.set(1, 0, 35);
        Check.due("just full, nothing goes", x.charge(4, 0), 20);
        Check.due("one lacks: itself's goes", x.charge(4, 1), 21);
        Check.due("itself's", x.told(1, 2), 9);
        Check.due("all of both", x.charge(4, 14), 35);
        Check.due("itself's and that within", x.told(1, 2) + x.told(3, 2), 0);
        Check.due("none is left within", x.charge(4, 1), LIMIT);
        Check.due("outside it stays", x.told(0, 2), 500);
        x.set(4, 0, 35);
        x.set(1, 0, 1000);
        x.cache(1, 7);
        x.cache(2, 8);
        Check.due("one beside and one around stay", x.charge(4, 1), LIMIT);
        Check.due("beside", x.told(2, 2), 8);
        Check.due("around", x.told(1, 2), 7);
    }

    /** What is left in groups 1 to 4 with such caches, when so much lacks in group 1. */
    private static void leaves(int lacks, int[] caches, int... left) {
        TaskTrees x = brothers();
        for (int g = 1; g <= 4; g++) {
            x.cache(g, caches[g - 1]);
        }
        x.set(1, 0, x.told(1, 0));
        Check.due("lacking " + lacks, x.charge(4, lacks), lacks);
        for (int g = 1; g <= 4; g++) {
            Check.due("lacking " + lacks + ", left in " + g, x.told(g, 2), left[g - 1]);
        }
        Check.due("no victims", x.count(8), 0);
    }

    private static void mostCacheGoes() {
        Check.sentence("that one's that has the most cache, of the same the lower one's");
        leaves(1, new int[] {7, 8, 9, 8}, 7, 8, 8, 8);
        leaves(1, new int[] {9, 9, 9, 9}, 8, 9, 9, 9);
        leaves(1, new int[] {8, 9, 9, 9}, 8, 8, 9, 9);
        leaves(1, new int[] {8, 8, 9, 9}, 8, 8, 8, 9);
        leaves(1, new int[] {8, 9, 8, 10}, 8, 9, 8, 9);
        leaves(1, new int[] {0, 0, 0, 1}, 0, 0, 0, 0);
        leaves(1, new int[] {0, 0, 1, 1}, 0, 0, 0, 1);
    }

    private static void asMuchAsLacks() {
        Check.sentence("as much of it as lacks, or all");
        leaves(29, new int[] {0, 30, 20, 0}, 0, 1, 20, 0);
        leaves(30, new int[] {0, 30, 20, 0}, 0, 0, 20, 0);
        leaves(31, new int[] {0, 30, 20, 0}, 0, 0, 19, 0);
        leaves(49, new int[] {0, 30, 20, 0}, 0, 0, 1, 0);
        leaves(50, new int[] {0, 30, 20, 0}, 0, 0, 0, 0);
    }

    private static void mostCacheByThen() {
        Check.sentence("(then likewise that one's that has the most by then)");
        leaves(45, new int[] {10, 20, 30, 20}, 10, 5, 0, 20);
        leaves(50, new int[] {10, 20, 30, 20}, 10, 0, 0, 20);
        leaves(51, new int[] {10, 20, 30, 20}, 10, 0, 0, 19);
        leaves(71, new int[] {10, 20, 30, 20}, 9, 0, 0, 0);
        leaves(25, new int[] {10, 20, 30, 20}, 10, 20, 5, 20);
        TaskTrees x = brothers();
        x.cache(2, 20);
        x.cache(3, 30);
        x.set(1, 0, 50);
        x.charge(4, 15);
        Check.due("3 had the most", x.told(3, 2), 15);
        x.charge(4, 15);
        Check.due("2 has the most by then", x.told(2, 2), 5);
    }

    /** 20 groups with 2 pages of cache each, all used up to the max; so many more are charged. */
    private static void takesCaches(int lacks, int left) {
        TaskTrees x = new TaskTrees();
        x.fork(0, false, false);
        x.badness(1, -10);
        x.cache(0, 2);
        for (int g = 1; g <= 19; g++) {
            x.group(0);
            x.move(1, g);
            x.cache(1, 2);
        }
        x.set(0, 0, 40);
        Check.due("lacking " + lacks, x.charge(0, lacks), lacks <= 40 ? lacks : LIMIT);
        for (int g = 0; g <= 18; g++) {
            Check.due("lacking " + lacks + ", left in " + g, x.told(g, 2), 0);
        }
        Check.due("lacking " + lacks + ", left in the last", x.told(19, 2), left);
        Check.due("lacking " + lacks + ", used", x.told(0, 0), lacks <= 40 ? 40 : 0);
    }

    private static void cachesOfAllGroups() {
        Check.sentence("as much of it as lacks, or all (then likewise that one's that has the "
                + "most by then)");
        takesCaches(38, 2);
        takesCaches(39, 1);
        takesCaches(40, 0);
        takesCaches(41, 0);
    }

    private static void cacheAheadOfVictims() {
        Check.sentence("then VICTIMS are killed");
        TaskTrees x = payers(50, 40);
        x.set(1, 0, 100);
        x.cache(1, 10);
        Check.due("all cache is enough", x.charge(2, 10), 50);
        Check.due("no cache", x.told(1, 2), 0);
        Check.due("no victim", x.count(8), 0);
        x.release(2, 11);
        x.cache(2, 11);
        Check.due("one more than all cache", x.charge(2, 12), 51);
        Check.due("no cache then", x.told(1, 2), 0);
        Check.due("a victim", x.count(8), 1);
        Check.due("task 1", x.task(1, 0), 2);
        Check.due("used", x.told(1, 0), 51);
    }

    /** Which of tasks 1 and 2 goes when one page lacks; 0 for none. */
    private static int victim(int pages1, int bad1, int pages2, int bad2) {
        TaskTrees x = payers(pages1, pages2, 0);
        x.badness(1, bad1);
        x.badness(2, bad2);
        x.badness(3, -10);
        int answer = x.charge(3, 1);
        Check.due("the charge", answer, x.count(8) == 0 ? LIMIT : 1);
        Check.due("one victim at most", x.count(8) <= 1 ? 1 : 0, 1);
        return x.task(1, 0) != 0 ? 1 : x.task(2, 0) != 0 ? 2 : 0;
    }

    private static void victimByPagesAndBadness() {
        Check.sentence("the one with the most pages and 100 for each point of its BADNESS "
                + "together (-10 .. 10, 0 at first");
        Check.due("a page more", victim(11, 0, 10, 0), 1);
        Check.due("a page less", victim(9, 0, 10, 0), 2);
        Check.due("a point against 101 pages", victim(201, 0, 100, 1), 1);
        Check.due("a point against 99 pages", victim(199, 0, 100, 1), 2);
        Check.due("a point of the lower, 99 pages", victim(100, 1, 199, 0), 1);
        Check.due("a point of the lower, 101 pages", victim(100, 1, 201, 0), 2);
        Check.due("10 points against 1001 pages", victim(1002, 0, 1, 10), 1);
        Check.due("10 points against 999 pages", victim(1000, 0, 1, 10), 2);
        Check.due("-1 point and 101 pages", victim(102, -1, 1, 0), 1);
        Check.due("-1 point and 99 pages", victim(100, -1, 1, 0), 2);
        Check.due("-9 points and 901 pages", victim(902, -9, 1, 0), 1);
        Check.due("-9 points and 899 pages", victim(900, -9, 1, 0), 2);
        Check.due("both below 0", victim(2, -9, 1, -9), 1);
    }

    private static void victimOfTheSame() {
        Check.sentence("of the same the higher task");
        Check.due("the same pages", victim(10, 0, 10, 0), 2);
        Check.due("a point is 100 pages", victim(200, 0, 100, 1), 2);
        Check.due("a point of the lower", victim(100, 1, 200, 0), 2);
        Check.due("below 0", victim(5, -9, 5, -9), 2);
        TaskTrees x = payers(30, 30, 30, 30, 0);
        x.badness(5, -10);
        x.charge(5, 1);
        Check.due("the highest", x.task(4, 0), 2);
        Check.due("the next stays", x.task(3, 0), 0);
        x.charge(5, 30);
        Check.due("then the next", x.task(3, 0), 2);
        Check.due("the lower ones stay", x.task(2, 0) + x.task(1, 0), 0);
    }

    private static void victimsThatMayNotBe() {
        Check.sentence("-10 may not be killed; nor task 0");
        Check.due("-10 with many pages", victim(5000, -10, 1, -9), 2);
        Check.due("-10, the higher one", victim(1, -9, 5000, -10), 1);
        Check.due("both -10", victim(50, -10, 50, -10), 0);
        TaskTrees x = payers(5, 0);
        x.move(0, 1);
        x.set(1, 0, 1000000);
        x.charge(0, 500);
        x.badness(0, 10);
        x.badness(2, -10);
        x.set(1, 0, 505);
        Check.due("not task 0", x.charge(2, 5), 5);
        Check.due("but task 1", x.task(1, 0), 2);
        Check.due("nor for one more", x.charge(2, 1), LIMIT);
        Check.due("it has its pages", x.task(0, 5), 500);
        Check.due("one victim", x.count(8), 1);
        x.badness(2, -9);
        Check.due("-9 may be killed", x.charge(0, 1), 501);
        Check.due("task 2", x.task(2, 0), 2);
    }

    private static void victimsWithoutPages() {
        Check.sentence("again, till there is room, or none is left");
        TaskTrees x = payers(0, 10, 0, 0);
        x.badness(1, 1);
        x.badness(3, -9);
        x.badness(4, -10);
        Check.due("a bad one ahead of the one with pages", x.charge(4, 1), 1);
        Check.due("the bad one", x.task(1, 0), 2);
        Check.due("then the one with pages", x.task(2, 0), 2);
        Check.due("room: not the next", x.task(3, 0), 0);
        Check.due("two victims", x.count(8), 2);
        Check.due("in vain", x.charge(4, 10), LIMIT);
        Check.due("one with nothing, far below 0", x.task(3, 0), 2);
        Check.due("three victims", x.count(8), 3);
    }

    private static void victimsOutsideAreSafe() {
        Check.sentence("of the live tasks in it (in groups within, too) that may be killed");
        TaskTrees x = payers(10, 0);
        x.group(0);
        x.fork(0, false, false);
        x.move(3, 2);
        x.charge(3, 5000);
        x.fork(0, false, false);
        x.charge(4, 6000);
        x.badness(2, -10);
        Check.due("in it", x.charge(2, 1), 1);
        Check.due("task 1", x.task(1, 0), 2);
        Check.due("in vain", x.charge(2, 10), LIMIT);
        Check.due("beside it", x.task(3, 0), 0);
        Check.due("around it", x.task(4, 0), 0);
    }

    private static void victimsWithin() {
        Check.sentence("of the live tasks in it (in groups within, too) that may be killed");
        TaskTrees x = chain();
        x.fork(0, false, false);
        x.fork(0, false, false);
        x.fork(0, false, false);
        x.move(2, 1);
        x.move(3, 4);
        x.charge(2, 10);
        x.charge(3, 20);
        x.charge(4, 30);
        x.set(1, 0, 30);
        Check.due("a charge deep within", x.charge(1, 1), 1);
        Check.due("the one within", x.task(3, 0), 2);
        Check.due("the one in it stays", x.task(2, 0), 0);
        Check.due("a charge again", x.charge(1, 20), 21);
        Check.due("the one in it", x.task(2, 0), 2);
        Check.due("the one around stays", x.task(4, 0), 0);
    }

    private static void victimsTillThereIsRoom() {
        Check.sentence("that one EXITS; again, till there is room");
        int[] lacks = {49, 50, 51, 90, 91};
        int[] victims = {1, 1, 2, 2, 3};
        for (int i = 0; i < 5; i++) {
            TaskTrees x = payers(50, 40, 30, 0);
            x.badness(4, -10);
            Check.due("lacking " + lacks[i], x.charge(4, lacks[i]), lacks[i]);
            Check.due("victims for " + lacks[i], x.count(8), victims[i]);
            Check.due("live then", x.count(1), 5 - victims[i]);
        }
        TaskTrees x = new TaskTrees();
        x.fork(0, true, false);
        x.fork(1, false, false);
        x.charge(2, 9);
        x.badness(1, -10);
        x.set(0, 0, 9);
        x.charge(1, 9);
        Check.due("it exits: a zombie", x.task(2, 0), 1);
        Check.due("that is reaped", x.reap(1), 2);
    }

    private static void victimsTillNoneIsLeft() {
        Check.sentence("(then the charge fails, what was killed stays killed)");
        TaskTrees x = payers(50, 40, 0);
        x.badness(3, -10);
        x.set(1, 0, 100);
        x.cache(1, 10);
        Check.due("just all of it", x.charge(3, 100), 100);
        Check.due("two victims", x.count(8), 2);

        TaskTrees y = payers(50, 40, 0);
        y.badness(3, -10);
        y.set(1, 0, 100);
        y.cache(1, 10);
        Check.due("one too many", y.charge(3, 101), LIMIT);
        Check.due("two victims in vain", y.count(8), 2);
        Check.due("killed", y.task(1, 0) + y.task(2, 0), 4);
        Check.due("the cache is gone", y.told(1, 2), 0);
        Check.due("not charged", y.task(3, 5), 0);
        Check.due("nothing is used", y.told(1, 0), 0);
    }

    private static void victimsOfAllNumbers() {
        Check.sentence("again, till there is room, or none is left");
        for (int lacks = 38; lacks <= 40; lacks++) {
            TaskTrees x = new TaskTrees();
            for (int t = 1; t <= 39; t++) {
                x.fork(0, false, false);
                x.charge(t, 1);
            }
            x.set(0, 0, 39);
            Check.due("lacking " + lacks, x.charge(0, lacks), lacks <= 39 ? lacks : LIMIT);
            Check.due("victims for " + lacks, x.count(8), Math.min(lacks, 39));
            Check.due("the least one", x.task(1, 0), lacks < 39 ? 0 : 2);
            Check.due("all numbers are free", x.find(0, 40), NONE);
        }
    }

    private static void victimThatIsAnInit() {
        Check.sentence("that one EXITS");
        TaskTrees x = payers(0, 0);
        x.set(1, 0, 100);
        x.fork(1, true, false);
        x.fork(3, false, false);
        x.charge(3, 30);
        x.charge(4, 20);
        x.badness(4, -10);
        x.badness(2, -10);
        x.charge(2, 50);
        Check.due("full", x.told(1, 0), 100);
        Check.due("what lacks is what both have", x.charge(2, 50), 100);
        Check.due("the INIT is a zombie", x.task(3, 0), 1);
        Check.due("the other is gone", x.task(4, 0), 2);
        Check.due("one victim", x.count(8), 1);
        Check.due("task 1 lives", x.task(1, 0), 0);
    }

    private static void outwards() {
        Check.sentence("the first that has not, from its own outwards, makes room");
        TaskTrees x = chain();
        x.fork(0, false, false);
        x.fork(0, false, false);
        x.move(2, 5);
        x.move(3, 4);
        x.charge(2, 10);
        x.charge(3, 500);
        x.cache(3, 5);
        x.set(5, 0, 10);
        x.set(4, 0, 515);
        Check.due("both are full", x.told(5, 0) + x.told(4, 0), 525);
        Check.due("its own makes room", x.charge(1, 1), 1);
        Check.due("its own group's task", x.task(2, 0), 2);
        Check.due("there is room around then: the task stays", x.task(3, 0), 0);
        Check.due("and the cache", x.told(4, 2), 5);
        Check.due("one victim", x.count(8), 1);
    }

    private static void outwardsNoFurther() {
        Check.sentence("Then the next group without room, until all have room.");
        TaskTrees x = chain();
        for (int t = 2; t <= 5; t++) {
            x.fork(0, false, false);
            x.charge(t, 10);
        }
        x.move(2, 5);
        x.move(3, 3);
        x.move(4, 1);
        x.set(5, 0, 10);
        x.set(3, 0, 21);
        x.set(1, 0, 31);
        x.set(0, 0, 42);
        Check.due("10: its own, no more", x.charge(1, 10), 10);
        Check.due("task 2", x.task(2, 0), 2);
        Check.due("task 3 stays", x.task(3, 0), 0);
        x.set(5, 0, 100);
        Check.due("1: there is room", x.charge(1, 1), 11);
        Check.due("1 more: the next one", x.charge(1, 1), 12);
        Check.due("task 3", x.task(3, 0), 2);
        Check.due("task 4 stays", x.task(4, 0), 0);
        Check.due("9: to the edge", x.charge(1, 9), 21);
        x.set(3, 0, 100);
        Check.due("1: the next one", x.charge(1, 1), 22);
        Check.due("task 4", x.task(4, 0), 2);
        Check.due("task 5 stays", x.task(5, 0), 0);
        x.set(1, 0, 100);
        Check.due("to the edge", x.charge(1, 10), 32);
        Check.due("1: the outermost", x.charge(1, 1), 33);
        Check.due("task 5", x.task(5, 0), 2);
        Check.due("task 0 stays", x.task(0, 0), 0);
    }

    private static void failsNoFurther() {
        Check.sentence("or none is left (then the charge fails");
        TaskTrees x = chain();
        x.fork(0, false, false);
        x.charge(2, 50);
        x.cache(2, 40);
        x.set(5, 0, 9);
        x.set(0, 0, 90);
        Check.due("its own fails", x.charge(1, 10), LIMIT);
        Check.due("those around do nothing", x.told(0, 2), 40);
        Check.due("nobody is killed there", x.task(2, 0), 0);
        x.set(5, 0, 10);
        Check.due("its own has room", x.charge(1, 10), 10);
        Check.due("of the cache around", x.told(0, 2), 30);
    }

    private static void payerIsKilled() {
        Check.sentence("When the task itself is killed by that, all is over at once, and it is "
                + "not charged.");
        TaskTrees x = payers(40, 60, 10);
        x.cache(0, 7);
        x.set(0, 0, 117);
        Check.due("the worst pays", x.charge(2, 1), KILLED);
        Check.due("it is gone", x.task(2, 0), 2);
        Check.due("without pages", x.task(2, 5), 0);
        Check.due("the others live", x.task(1, 0) + x.task(3, 0), 0);
        Check.due("used", x.told(1, 0), 50);
        Check.due("one victim", x.count(8), 1);
        Check.due("the cache around stays", x.told(0, 2), 7);
        Check.due("far too many: the others first", x.charge(3, 200), KILLED);
        Check.due("task 1", x.task(1, 0), 2);
        Check.due("three victims", x.count(8), 3);
        Check.due("nothing is used", x.told(1, 0), 0);
        Check.due("nor taken back around", x.told(0, 2), 7);
    }

    private static void payerIsTheLast() {
        Check.sentence("NONE; KILLED; LIMIT.");
        TaskTrees x = payers(10);
        Check.due("nothing", x.charge(1, 0), 10);
        Check.due("itself alone", x.charge(1, 1), KILLED);
        Check.due("not live", x.charge(1, 1), NONE);
        TaskTrees y = payers(10);
        y.badness(1, -10);
        Check.due("it may not be", y.charge(1, 1), LIMIT);
        Check.due("it is live", y.task(1, 5), 10);
        y.badness(1, -9);
        Check.due("it may be", y.charge(1, 1), KILLED);
        TaskTrees z = new TaskTrees();
        z.set(0, 0, 10);
        Check.due("task 0 alone", z.charge(0, 11), LIMIT);
        Check.due("task 0, room", z.charge(0, 10), 10);
    }

    private static void payerEndsWithItsInit() {
        Check.sentence("When the task itself is killed by that, all is over at once");
        TaskTrees x = payers(0, 20);
        x.set(1, 0, 100);
        x.fork(1, true, false);
        x.fork(3, false, false);
        x.charge(3, 30);
        x.badness(4, -10);
        x.charge(4, 50);
        Check.due("full", x.told(1, 0), 100);
        Check.due("its INIT is the victim", x.charge(4, 1), KILLED);
        Check.due("it is gone", x.task(4, 0), 2);
        Check.due("one victim", x.count(8), 1);
        Check.due("task 2 lives", x.task(2, 0), 0);
        Check.due("used", x.told(1, 0), 20);
    }

    private static void cacheArguments() {
        Check.sentence("CACHE of 0 .. 1000000 pages: the group's cache then.");
        TaskTrees x = chain();
        Check.due("0", x.cache(1, 0), 0);
        Check.due("1", x.cache(1, 1), 1);
        Check.due("999999", x.cache(1, 999999), 1000000);
        Check.due("1000000, in its own place", x.cache(1, 1000000), 1000000);
        int[] wrong = {-1, 1000001, LEAST, MOST};
        for (int n : wrong) {
            Check.argument("n " + n, () -> x.cache(1, n));
            Check.argument("n " + n + " of no task", () -> x.cache(2, n));
            Check.argument("n " + n + " of task -1", () -> x.cache(-1, n));
        }
        Check.due("as before", x.told(5, 2), 1000000);
    }

    private static void cacheOfTheLive() {
        Check.sentence("CACHE: n pages are charged to a live task's group in the same way, as "
                + "its cache");
        TaskTrees x = new TaskTrees();
        x.group(0);
        x.fork(0, true, false);
        x.fork(1, false, false);
        x.move(2, 1);
        Check.due("its group's", x.cache(2, 6), 6);
        Check.due("another's task", x.cache(1, 5), 5);
        Check.due("not around", x.told(0, 2), 5);
        Check.due("used around", x.told(0, 0), 11);
        Check.due("no pages of the task", x.task(2, 5), 0);
        x.exit(2);
        Check.due("a zombie's", x.cache(2, 1), NONE);
        x.reap(1);
        Check.due("a gone one's", x.cache(2, 0), NONE);
        int[] never = {-1, 3, 150, LEAST, MOST};
        for (int t : never) {
            Check.due("cache(" + t + ")", x.cache(t, 1), NONE);
        }
        Check.due("used then", x.told(0, 0), 11);
    }

    private static void cacheUpToTheMax() {
        Check.sentence("Of the groups from its own outwards each must have room");
        for (int limited = 0; limited <= 5; limited++) {
            TaskTrees x = chain();
            x.charge(1, 50);
            x.set(limited, 0, 100);
            Check.due("one below, " + limited, x.cache(1, 49), 49);
            Check.due("the last one, " + limited, x.cache(1, 1), 50);
            Check.due("one in its own place, " + limited, x.cache(1, 1), 50);
            Check.due("as much as goes, " + limited, x.cache(1, 50), 50);
            Check.due("used", x.told(limited, 0), 100);
            Check.due("one too many, " + limited, x.cache(1, 51), LIMIT);
            Check.due("the cache is gone, " + limited, x.told(5, 2), 0);
            Check.due("used then", x.told(limited, 0), 50);
        }
    }

    private static void cacheTakesCaches() {
        Check.sentence("in the same way, as its cache");
        TaskTrees x = brothers();
        x.cache(2, 30);
        x.cache(3, 30);
        x.set(1, 0, 60);
        Check.due("one, of the lower one's", x.cache(4, 1), 1);
        Check.due("2's", x.told(2, 2), 29);
        Check.due("one, of the most", x.cache(4, 1), 2);
        Check.due("3's", x.told(3, 2), 29);
        Check.due("30: 2's, and one of 3's", x.cache(4, 30), 32);
        Check.due("2's then", x.told(2, 2), 0);
        Check.due("3's then", x.told(3, 2), 28);
        Check.due("full", x.told(1, 0), 60);
    }

    private static void cacheKills() {
        Check.sentence("CACHE of 0 .. 1000000 pages: the group's cache then. NONE; KILLED; LIMIT.");
        TaskTrees x = payers(30, 20, 0);
        x.badness(3, -10);
        Check.due("a victim", x.cache(3, 30), 30);
        Check.due("task 1", x.task(1, 0), 2);
        Check.due("all cache first", x.cache(3, 30), 30);
        Check.due("no victim more", x.count(8), 1);
        Check.due("one too many for the cache alone", x.cache(3, 31), 31);
        Check.due("task 2", x.task(2, 0), 2);
        Check.due("just all", x.cache(3, 50), 50);
        Check.due("one too many", x.cache(3, 51), LIMIT);
        Check.due("all cache is gone", x.told(1, 0), 0);
        x.badness(3, 0);
        Check.due("the payer", x.cache(3, 51), KILLED);
        Check.due("nothing is kept", x.told(1, 2), 0);
        Check.due("victims", x.count(8), 3);
    }

    private static void cacheStays() {
        Check.sentence("(they stay when the task goes)");
        TaskTrees x = new TaskTrees();
        x.group(0);
        x.group(0);
        x.fork(0, false, false);
        x.move(1, 1);
        x.cache(1, 9);
        x.charge(1, 5);
        x.move(1, 2);
        Check.due("when it is moved", x.told(1, 2), 9);
        Check.due("not with it", x.told(2, 2), 0);
        x.move(1, 1);
        x.exit(1);
        Check.due("when it exits", x.told(1, 2), 9);
        Check.due("used", x.told(1, 0), 9);
        Check.due("used around", x.told(0, 0), 9);
        x.set(0, 0, 9);
        Check.due("until another needs it", x.charge(0, 1), 1);
        Check.due("then", x.told(1, 2), 8);
    }
}
