/**
 * The edges that the document names for groups (Terms, promises 10 to 12, 14, 16, 17): a test for
 * each sentence, at the edge and on both sides of it. ChargeEdgesTest has those of a charge.
 */
public final class GroupEdgesTest {
    private static final int NONE = TaskTrees.NONE, FULL = TaskTrees.FULL, LIMIT = TaskTrees.LIMIT;
    private static final int LEAST = Integer.MIN_VALUE, MOST = Integer.MAX_VALUE;

    public static void main(String[] args) {
        groupsInAll();
        groupsAround();
        groupsThatAreNot();
        newGroups();
        usesOfAGroup();
        liveOfAGroup();
        setMax();
        setMost();
        setWeight();
        setQuota();
        setWhat();
        setBelowUse();
        setBelowTasks();
        setLimitsOnlyTwo();
        toldWhat();
        releaseOfPages();
        releaseArguments();
        moveAnswers();
        moveUpToTheMost();
        moveUpToTheMax();
        moveBelowFullGroups();
        moveOfTheOneThatItLeft();
        moveAroundIt();
        moveTakesNothingBack();
        moveWithoutPages();
        badnessArguments();
        badnessOfTheLive();
        Check.end();
    }

    /** Groups 1 to 5, each within the one before, and tasks 1 and 2. */
    private static TaskTrees chain() {
        TaskTrees x = new TaskTrees();
        for (int g = 0; g < 5; g++) {
            x.group(g);
        }
        x.fork(0, false, false);
        x.fork(0, false, false);
        return x;
    }

    private static void groupsInAll() {
        Check.sentence("GROUPS 0 .. 19 lie in one another: 0 is the outermost");
        TaskTrees x = new TaskTrees();
        for (int g = 1; g <= 18; g++) {
            Check.due("group " + g, x.group(g / 2), g);
        }
        Check.due("not yet", x.told(19, 3), NONE);
        Check.due("19 groups", x.count(4), 19);
        Check.due("the 20th", x.group(0), 19);
        Check.due("it is there", x.told(19, 3), 1000000);
        Check.due("a 21st", x.group(0), FULL);
        Check.due("within the last", x.group(19), FULL);
        Check.due("within none", x.group(20), NONE);
        Check.due("20 groups", x.count(4), 20);
        Check.due("no group 20", x.told(20, 3), NONE);
        Check.due("the outermost is in none", x.told(0, 8), -1);
        Check.due("the last is in", x.told(19, 8), 0);
    }

    private static void groupsAround() {
        Check.sentence("FULL (also when 5 are around it, the outermost one counted).");
        TaskTrees x = new TaskTrees();
        for (int g = 0; g < 5; g++) {
            Check.due("within " + g, x.group(g), g + 1);
        }
        Check.due("5 are around it", x.group(5), FULL);
        Check.due("4 are around it", x.group(4), 6);
        Check.due("5 are around that", x.group(6), FULL);
        Check.due("none is around it", x.group(0), 7);
        Check.due("groups", x.count(4), 8);
        Check.due("the innermost is in", x.told(5, 8), 4);
    }

    private static void groupsThatAreNot() {
        Check.sentence("-1 NONE (no such task, number, group, path; one that is not live)");
        TaskTrees x = new TaskTrees();
        x.group(0);
        int[] none = {-1, 2, 19, 20, LEAST, MOST};
        for (int g : none) {
            Check.due("group(" + g + ")", x.group(g), NONE);
            Check.due("told of " + g, x.told(g, 0), NONE);
            Check.due("set of " + g, x.set(g, 0, 1), NONE);
            Check.due("move to " + g, x.move(0, g), NONE);
            Check.due("time of " + g, x.time(true, g), -1);
        }
        Check.due("the last there is", x.told(1, 3), 1000000);
        Check.due("no more were made", x.count(4), 2);
    }

    private static void newGroups() {
        Check.sentence("Each has a MAX of pages (1000000 at first), a MOST of tasks (150 at "
                + "first), a WEIGHT (100), a QUOTA (0: none), CACHE pages, and USES");
        TaskTrees x = new TaskTrees();
        x.set(0, 0, 500);
        x.set(0, 1, 7);
        x.set(0, 2, 8);
        x.set(0, 3, 9);
        x.cache(0, 3);
        x.charge(0, 4);
        x.group(0);
        int[] told = {0, 0, 0, 1000000, 150, 100, 0, 0, 0};
        for (int what = 0; what < 9; what++) {
            Check.due("told(1, " + what + ")", x.told(1, what), told[what]);
        }
    }

    private static void usesOfAGroup() {
        Check.sentence("USES: the pages of the live tasks in it, its cache, and what groups "
                + "within use");
        TaskTrees x = chain();
        x.move(1, 5);
        x.move(2, 3);
        x.charge(1, 1);
        x.cache(1, 10);
        x.charge(2, 100);
        x.cache(2, 1000);
        int[] uses = {1111, 1111, 1111, 1111, 11, 11};
        for (int g = 0; g <= 5; g++) {
            Check.due("used by " + g, x.told(g, 0), uses[g]);
        }
        x.exit(1);
        int[] then = {1110, 1110, 1110, 1110, 10, 10};
        for (int g = 0; g <= 5; g++) {
            Check.due("without the task, by " + g, x.told(g, 0), then[g]);
        }
    }

    private static void liveOfAGroup() {
        Check.sentence("1 its live tasks (those within, too)");
        TaskTrees x = chain();
        x.fork(0, true, false);
        x.fork(3, false, false);
        x.move(1, 5);
        x.move(3, 2);
        x.move(4, 5);
        int[] live = {5, 3, 3, 2, 2, 2};
        for (int g = 0; g <= 5; g++) {
            Check.due("live in " + g, x.told(g, 1), live[g]);
        }
        x.exit(4);
        Check.due("a zombie", x.task(4, 0), 1);
        int[] then = {4, 2, 2, 1, 1, 1};
        for (int g = 0; g <= 5; g++) {
            Check.due("without the zombie in " + g, x.told(g, 1), then[g]);
        }
    }

    /** Least and most, what is just beyond them, and what it was at first. */
    private static void setEdges(int what, int least, int most, int first) {
        TaskTrees x = new TaskTrees();
        x.group(0);
        Check.due("the least", x.set(1, what, least), first);
        Check.due("the least is", x.told(1, what + 3), least);
        Check.due("one more", x.set(1, what, least + 1), least);
        Check.due("one below the most", x.set(1, what, most - 1), least + 1);
        Check.due("the most", x.set(1, what, most), most - 1);
        Check.due("the same", x.set(1, what, most), most);
        int[] wrong = {least - 1, most + 1, LEAST, MOST};
        for (int v : wrong) {
            Check.argument("v " + v, () -> x.set(1, what, v));
            Check.argument("v " + v + " of no group", () -> x.set(2, what, v));
            Check.argument("v " + v + " of group -1", () -> x.set(-1, what, v));
        }
        Check.due("the most is", x.told(1, what + 3), most);
        Check.due("no group", x.set(2, what, most), NONE);
        Check.due("group -1", x.set(-1, what, least), NONE);
        for (int other = 0; other < 4; other++) {
            int[] firsts = {1000000, 150, 100, 0};
            Check.due("another's, " + other, x.told(1, other + 3),
                    other == what ? most : firsts[other]);
            Check.due("group 0's, " + other, x.told(0, other + 3), firsts[other]);
        }
    }

    private static void setMax() {
        Check.sentence("A group's max (what = 0; 0 .. 1000000)");
        setEdges(0, 0, 1000000, 1000000);
    }

    private static void setMost() {
        Check.sentence("most (1; 0 .. 150)");
        setEdges(1, 0, 150, 150);
    }

    private static void setWeight() {
        Check.sentence("weight (2; 1 .. 1000)");
        setEdges(2, 1, 1000, 100);
    }

    private static void setQuota() {
        Check.sentence("quota (3; 0 .. 20)");
        setEdges(3, 0, 20, 0);
    }

    private static void setWhat() {
        Check.sentence("IndexOutOfBoundsException for another what; IllegalArgumentException.");
        TaskTrees x = new TaskTrees();
        int[] wrong = {-1, 4, LEAST, MOST};
        for (int what : wrong) {
            Check.index("what " + what, () -> x.set(0, what, 1));
            Check.index("ahead of a wrong v, " + what, () -> x.set(0, what, -1));
            Check.index("ahead of no group, " + what, () -> x.set(1, what, 1));
            Check.index("ahead of all, " + what, () -> x.set(-1, what, MOST));
        }
        Check.argument("what 0, a wrong v", () -> x.set(0, 0, -1));
        Check.argument("what 3, a wrong v", () -> x.set(0, 3, 21));
        Check.due("what 0", x.set(0, 0, 1), 1000000);
        Check.due("what 3", x.set(0, 3, 1), 0);
    }

    private static void setBelowUse() {
        Check.sentence("LIMIT: it uses more, has more tasks.");
        TaskTrees x = chain();
        x.move(1, 5);
        x.charge(1, 40);
        x.cache(1, 2);
        for (int g = 0; g <= 5; g++) {
            Check.due("one below, " + g, x.set(g, 0, 41), LIMIT);
            Check.due("as before, " + g, x.told(g, 3), 1000000);
            Check.due("just so, " + g, x.set(g, 0, 42), 1000000);
            Check.due("one above, " + g, x.set(g, 0, 43), 42);
            Check.due("nothing, " + g, x.set(g, 0, 0), LIMIT);
        }
        x.exit(1);
        Check.due("its cache is used still", x.set(5, 0, 1), LIMIT);
        Check.due("its cache, just so", x.set(5, 0, 2), 43);
        TaskTrees y = new TaskTrees();
        Check.due("nothing is used", y.set(0, 0, 0), 1000000);
    }

    private static void setBelowTasks() {
        Check.sentence("LIMIT: it uses more, has more tasks.");
        TaskTrees x = chain();
        x.move(1, 5);
        x.move(2, 5);
        x.move(0, 5);
        for (int g = 0; g <= 5; g++) {
            Check.due("one below, " + g, x.set(g, 1, 2), LIMIT);
            Check.due("as before, " + g, x.told(g, 4), 150);
            Check.due("just so, " + g, x.set(g, 1, 3), 150);
            Check.due("one above, " + g, x.set(g, 1, 4), 3);
        }
        x.exit(1);
        Check.due("a task less", x.set(5, 1, 2), 4);
        Check.due("task 0 and 2", x.set(5, 1, 1), LIMIT);
        x.move(0, 0);
        x.move(2, 0);
        Check.due("no task", x.set(5, 1, 0), 2);
        Check.due("none may come", x.move(2, 5), LIMIT);
        Check.due("one may come", x.set(5, 1, 1), 0);
        Check.due("it comes", x.move(2, 5), 1);
        Check.due("none more", x.move(0, 5), LIMIT);
    }

    private static void setLimitsOnlyTwo() {
        Check.sentence("A group's max (what = 0; 0 .. 1000000), most (1; 0 .. 150), weight "
                + "(2; 1 .. 1000), quota (3; 0 .. 20): what it was.");
        TaskTrees x = new TaskTrees();
        x.charge(0, 1000);
        x.fork(0, false, false);
        x.ticks(9);
        Check.due("a weight below what it uses", x.set(0, 2, 1), 100);
        Check.due("a quota below what it ran", x.set(0, 3, 1), 0);
        Check.due("no quota", x.set(0, 3, 0), 1);
        Check.due("a max below the max of one within", x.set(0, 0, 1000), 1000000);
        x.group(0);
        Check.due("one within may have more", x.set(1, 0, 1000000), 1000000);
    }

    private static void toldWhat() {
        Check.sentence("Of a group: what = 0 what it USES, 1 its live tasks (those within, too), "
                + "2 its cache, 3 its max, 4 most, 5 weight, 6 quota");
        TaskTrees x = new TaskTrees();
        x.group(0);
        x.charge(0, 6);
        Check.due("what 0", x.told(0, 0), 6);
        Check.due("what 8", x.told(1, 8), 0);
        Check.due("what 8 of the outermost", x.told(0, 8), -1);
        int[] wrong = {-1, 9, LEAST, MOST};
        for (int what : wrong) {
            Check.index("what " + what, () -> x.told(0, what));
            Check.index("what " + what + " of no group", () -> x.told(2, what));
            Check.index("what " + what + " of group -1", () -> x.told(-1, what));
        }
        Check.due("no group, what 8", x.told(2, 8), NONE);
        Check.due("group -1, what 0", x.told(-1, 0), NONE);
    }

    private static void releaseOfPages() {
        Check.sentence("A live task gives pages back: what it has then. NONE; LIMIT: it has not "
                + "so many.");
        TaskTrees x = chain();
        x.move(1, 5);
        x.charge(1, 10);
        x.charge(2, 10);
        Check.due("one too many", x.release(1, 11), LIMIT);
        Check.due("far too many", x.release(1, MOST), LIMIT);
        Check.due("it has them", x.task(1, 5), 10);
        Check.due("all but one", x.release(1, 9), 1);
        Check.due("used", x.told(5, 0), 1);
        Check.due("used around", x.told(0, 0), 11);
        Check.due("two", x.release(1, 2), LIMIT);
        Check.due("nothing", x.release(1, 0), 1);
        Check.due("the last one", x.release(1, 1), 0);
        Check.due("nothing of nothing", x.release(1, 0), 0);
        Check.due("one of nothing", x.release(1, 1), LIMIT);
        Check.due("used then", x.told(0, 0), 10);
        Check.due("no cache is given back", x.cache(1, 5), 5);
        Check.due("it is not the task's", x.release(1, 1), LIMIT);
    }

    private static void releaseArguments() {
        Check.sentence("IllegalArgumentException: n is below 0.");
        TaskTrees x = chain();
        x.charge(1, 10);
        int[] wrong = {-1, -10, LEAST};
        for (int n : wrong) {
            Check.argument("n " + n, () -> x.release(1, n));
            Check.argument("n " + n + " of no task", () -> x.release(3, n));
            Check.argument("n " + n + " of task -1", () -> x.release(-1, n));
        }
        Check.due("n 0", x.release(1, 0), 10);
        Check.due("n 0 of no task", x.release(3, 0), NONE);
        Check.due("n far of no task", x.release(3, MOST), NONE);
        Check.due("n 0 of task -1", x.release(-1, 0), NONE);
        x.exit(1);
        Check.due("n 0 of a gone one", x.release(1, 0), NONE);
    }

    private static void moveAnswers() {
        Check.sentence("MOVE of a live task: 1; 0 if it is there. NONE; LIMIT.");
        TaskTrees x = chain();
        Check.due("it is there", x.move(1, 0), 0);
        Check.due("to another", x.move(1, 1), 1);
        Check.due("it is there now", x.move(1, 1), 0);
        Check.due("to the one around", x.move(1, 0), 1);
        x.set(0, 1, 3);
        x.charge(1, 5);
        x.set(0, 0, 5);
        Check.due("it is there, and that is full", x.move(1, 0), 0);
        int[] none = {-1, 3, 150, LEAST, MOST};
        for (int t : none) {
            Check.due("task " + t, x.move(t, 1), NONE);
            Check.due("task " + t + " to none", x.move(t, 6), NONE);
        }
        x.fork(1, false, false);
        x.exit(1);
        Check.due("a gone one", x.move(1, 1), NONE);
        Check.due("a gone one, there", x.move(1, 0), NONE);
    }

    private static void moveUpToTheMost() {
        Check.sentence("refused if a group there, or around it (that is not around the one where "
                + "it was, nor that one itself), would have more tasks than its most");
        for (int limited = 1; limited <= 5; limited++) {
            TaskTrees x = chain();
            x.move(1, 5);
            x.set(limited, 1, 1);
            Check.due("one has come, " + limited, x.move(2, 5), LIMIT);
            Check.due("it is where it was", x.task(2, 3), 0);
            x.set(limited, 1, 2);
            Check.due("a second, " + limited, x.move(2, 5), 1);
            Check.due("a third, " + limited, x.move(0, 5), LIMIT);
            Check.due("live in it", x.told(limited, 1), 2);
        }
    }

    private static void moveUpToTheMax() {
        Check.sentence("or use more than its max: nothing is taken back for it");
        for (int limited = 1; limited <= 5; limited++) {
            TaskTrees x = chain();
            x.move(1, 5);
            x.charge(1, 30);
            x.charge(2, 12);
            x.set(limited, 0, 41);
            Check.due("one too many, " + limited, x.move(2, 5), LIMIT);
            Check.due("it is where it was", x.task(2, 3), 0);
            Check.due("used there", x.told(limited, 0), 30);
            x.set(limited, 0, 42);
            Check.due("just so many, " + limited, x.move(2, 5), 1);
            Check.due("used then", x.told(limited, 0), 42);
            Check.due("used in all", x.told(0, 0), 42);
        }
    }

    private static void moveBelowFullGroups() {
        Check.sentence("(that is not around the one where it was, nor that one itself)");
        TaskTrees x = chain();
        x.group(2);
        x.move(1, 5);
        x.move(2, 5);
        x.charge(1, 10);
        for (int g = 1; g <= 2; g++) {
            x.set(g, 0, 10);
            x.set(g, 1, 2);
        }
        x.set(0, 0, 10);
        x.set(0, 1, 3);
        Check.due("those around both are full", x.move(1, 6), 1);
        Check.due("and back", x.move(1, 5), 1);
        x.set(6, 1, 0);
        Check.due("the one there is not around", x.move(1, 6), LIMIT);
        x.set(6, 1, 1);
        x.set(6, 0, 9);
        Check.due("nor with its pages", x.move(1, 6), LIMIT);
        x.set(6, 0, 10);
        Check.due("just so", x.move(1, 6), 1);
    }

    private static void moveOfTheOneThatItLeft() {
        Check.sentence("nor that one itself");
        TaskTrees x = chain();
        x.move(1, 2);
        x.charge(1, 10);
        x.set(2, 0, 10);
        x.set(2, 1, 1);
        Check.due("into one within a full one", x.move(1, 4), 1);
        Check.due("it holds it still", x.told(2, 0), 10);
        x.set(3, 0, 10);
        x.set(3, 1, 1);
        Check.due("out to one that holds it", x.move(1, 3), 1);
        Check.due("out to the next", x.move(1, 2), 1);
        Check.due("out of it", x.move(1, 1), 1);
        Check.due("it is empty", x.told(2, 0) + x.told(2, 1), 0);
        x.set(2, 0, 9);
        Check.due("not back into it", x.move(1, 2), LIMIT);
        Check.due("nor within it", x.move(1, 5), LIMIT);
    }

    private static void moveAroundIt() {
        Check.sentence("MOVE: a task goes to another group with its pages");
        TaskTrees x = chain();
        x.group(0);
        x.move(1, 5);
        x.charge(1, 10);
        x.cache(1, 7);
        x.move(1, 6);
        int[] uses = {17, 7, 7, 7, 7, 7, 10};
        int[] live = {3, 0, 0, 0, 0, 0, 1};
        for (int g = 0; g <= 6; g++) {
            Check.due("used by " + g, x.told(g, 0), uses[g]);
            Check.due("live in " + g, x.told(g, 1), live[g]);
        }
        Check.due("its pages", x.task(1, 5), 10);
        Check.due("no cache goes with it", x.told(6, 2), 0);
    }

    private static void moveTakesNothingBack() {
        Check.sentence("nothing is taken back for it");
        TaskTrees x = chain();
        x.move(1, 1);
        x.cache(1, 20);
        x.charge(1, 30);
        x.charge(2, 10);
        x.set(1, 0, 59);
        Check.due("its cache and its task stay", x.move(2, 1), LIMIT);
        Check.due("cache", x.told(1, 2), 20);
        Check.due("task 1", x.task(1, 5), 30);
        x.set(1, 0, 60);
        Check.due("just so", x.move(2, 1), 1);
        Check.due("cache then", x.told(1, 2), 20);
        Check.due("used then", x.told(1, 0), 60);
        Check.due("no victims", x.count(8), 0);
    }

    private static void moveWithoutPages() {
        Check.sentence("or use more than its max");
        TaskTrees x = chain();
        x.set(1, 0, 0);
        Check.due("without pages, a max of 0", x.move(1, 1), 1);
        x.charge(2, 1);
        Check.due("with one page", x.move(2, 1), LIMIT);
        x.release(2, 1);
        Check.due("without it", x.move(2, 1), 1);
    }

    private static void badnessArguments() {
        Check.sentence("A live task's badness -10 .. 10: 1. NONE. IllegalArgumentException.");
        TaskTrees x = chain();
        int[] right = {-10, -9, 0, 9, 10};
        for (int v : right) {
            Check.due("badness " + v, x.badness(1, v), 1);
            Check.due("it is " + v, x.task(1, 6), v);
            Check.due("the same again", x.badness(1, v), 1);
        }
        int[] wrong = {-11, 11, LEAST, MOST};
        for (int v : wrong) {
            Check.argument("badness " + v, () -> x.badness(1, v));
            Check.argument("badness " + v + " of no task", () -> x.badness(3, v));
            Check.argument("badness " + v + " of task -1", () -> x.badness(-1, v));
        }
        Check.due("as before", x.task(1, 6), 10);
        Check.due("another's", x.task(2, 6), 0);
        Check.due("task 0's", x.badness(0, -10), 1);
    }

    private static void badnessOfTheLive() {
        Check.sentence("one that is not live");
        TaskTrees x = new TaskTrees();
        x.fork(0, true, false);
        x.fork(1, false, false);
        x.badness(2, 3);
        x.exit(2);
        Check.due("a zombie's", x.badness(2, 4), NONE);
        Check.due("a zombie's charge", x.charge(2, 0), NONE);
        Check.due("a zombie's cache", x.cache(2, 0), NONE);
        Check.due("a zombie's release", x.release(2, 0), NONE);
        Check.due("a zombie's move", x.move(2, 0), NONE);
        Check.due("a zombie's sleep", x.sleep(2, true), NONE);
        x.reap(1);
        Check.due("a gone one's", x.badness(2, 4), NONE);
        Check.due("as before", x.task(2, 6), 3);
        int[] never = {-1, 3, 150, LEAST, MOST};
        for (int t : never) {
            Check.due("badness of " + t, x.badness(t, 0), NONE);
        }
    }
}
