/**
 * The edges that the document names for tasks and spaces (Terms, promises 1 to 9): a test for each
 * sentence, at the edge and on both sides of it.
 */
public final class TaskEdgesTest {
    private static final int NONE = TaskTrees.NONE, FULL = TaskTrees.FULL;
    private static final int LEAST = Integer.MIN_VALUE, MOST = Integer.MAX_VALUE;

    public static void main(String[] args) {
        newObjectHasOneOfEach();
        tasksEver();
        tasksThatWereNever();
        taskZeroNeverEnds();
        spacesInAll();
        spacesAround();
        numbersInASpace();
        firstOfASpace();
        behindFortyComesOne();
        behindFortyInside();
        zombiesHoldNumbers();
        fullOutsideStopsInside();
        forkOfALiveTask();
        forkInItsGroupAndView();
        mostOfTasks();
        mostOfAGroupAround();
        exitGivesPagesBack();
        heirs();
        initEndsItsSpace();
        initAlone();
        nobodyIsKilledTwice();
        zombiesGoWithTheInit();
        zombiesGoWithAnInnerInit();
        deadSpaces();
        zombiesOfTaskZero();
        goneTasks();
        exitAnswers();
        reapOfTheLeastNumber();
        reapAnswers();
        killSparesInits();
        killAnswers();
        numberAnswers();
        findAnswers();
        taskWhat();
        pagesUnlessLive();
        countWhat();
        countOfVictims();
        Check.end();
    }

    /** Task 0, and so many more of it that fork(0) makes: 1, 2, .. */
    private static TaskTrees withTasks(int more) {
        TaskTrees x = new TaskTrees();
        for (int i = 0; i < more; i++) {
            x.fork(0, false, false);
        }
        return x;
    }

    /** Task 1 the INIT of space 1, with so many children in it: 2, 3, .. */
    private static TaskTrees withSpace(int children) {
        TaskTrees x = new TaskTrees();
        x.fork(0, true, false);
        for (int i = 0; i < children; i++) {
            x.fork(1, false, false);
        }
        return x;
    }

    private static void newObjectHasOneOfEach() {
        Check.sentence("Task 0, INIT of space 0, in group 0, in view 0 with its root mount, "
                + "which is private.");
        TaskTrees x = new TaskTrees();
        Check.due("task 0", x.task(0, 0), 0);
        Check.due("no task 1", x.task(1, 0), NONE);
        Check.due("its number", x.number(0, 0), 1);
        Check.index("no space 1", () -> x.number(0, 1));
        Check.due("group 0", x.told(0, 1), 1);
        Check.due("no group 1", x.told(1, 1), NONE);
        Check.due("the root", x.mounted(0, 1), -1);
        Check.due("no mount 1", x.mounted(1, 1), NONE);
        Check.due("private", x.share(0, false), 0);
        Check.index("no view 1", () -> x.share(1, false));
        Check.due("INIT: spared", x.kill(0, 1), 0);
        Check.due("the next number", x.number(x.fork(0, false, false), 0), 2);
    }

    private static void tasksEver() {
        Check.sentence("(150 ever)");
        TaskTrees x = new TaskTrees();
        for (int i = 1; i <= 148; i++) {
            x.fork(0, false, false);
            x.exit(i);
        }
        Check.due("one below", x.count(0), 149);
        Check.due("task 149 is not there yet", x.task(149, 0), NONE);
        Check.due("the 150th", x.fork(0, false, false), 149);
        Check.due("a 151st", x.fork(0, false, false), FULL);
        Check.due("in a new space", x.fork(0, true, false), FULL);
        Check.due("in a new view", x.fork(0, false, true), FULL);
        Check.due("of the last one", x.fork(149, false, false), FULL);
        Check.due("the last one ends", x.exit(149), 1);
        Check.due("gone ones are counted", x.fork(0, false, false), FULL);
        Check.due("150 tasks", x.count(0), 150);
        Check.due("one live", x.count(1), 1);
        Check.due("no space was made", x.count(3), 1);
        Check.due("no view was made", x.count(5), 1);
        Check.due("no mount was made", x.count(6), 1);
    }

    private static void tasksThatWereNever() {
        Check.sentence("NONE: there never was such a task.");
        TaskTrees x = withTasks(2);
        x.exit(2);
        int[] never = {-1, 3, 149, 150, 151, LEAST, MOST};
        for (int t : never) {
            Check.due("number of " + t, x.number(t, 0), NONE);
            Check.due("task " + t, x.task(t, 0), NONE);
            Check.due("pages of " + t, x.task(t, 5), NONE);
            Check.due("ran " + t, x.ran(t), NONE);
            Check.due("time of " + t, x.time(false, t), -1);
        }
        Check.due("number of one that is gone", x.number(2, 0), 0);
        Check.due("one that is gone", x.task(2, 0), 2);
        Check.due("ran, gone", x.ran(2), 0);
        Check.due("number of the first", x.number(0, 0), 1);
        Check.due("the first", x.task(0, 0), 0);
    }

    private static void taskZeroNeverEnds() {
        Check.sentence("Task 0 is live, has no parent, and never ends.");
        TaskTrees x = withTasks(2);
        Check.due("no parent", x.task(0, 1), -1);
        Check.due("exit(0)", x.exit(0), NONE);
        Check.due("kill of itself", x.kill(0, 1), 0);
        Check.due("kill by a child", x.kill(1, 1), 0);
        Check.due("exit(1), another", x.exit(1), 1);
        x.badness(0, 10);
        x.charge(0, 500);
        x.set(0, 0, 501);
        Check.due("the payer is killed, not 0", x.charge(2, 2), TaskTrees.KILLED);
        Check.due("no victim left", x.charge(0, 2), TaskTrees.LIMIT);
        Check.due("it is live", x.task(0, 0), 0);
        Check.due("its pages", x.task(0, 5), 500);
        Check.due("live", x.count(1), 1);
    }

    private static void spacesInAll() {
        Check.sentence("SPACES 0 .. 19 lie in one another");
        TaskTrees x = new TaskTrees();
        for (int i = 1; i <= 18; i++) {
            x.fork(0, true, false);
        }
        Check.due("19 spaces", x.count(3), 19);
        Check.index("not yet", () -> x.find(19, 1));
        Check.due("the 20th", x.fork(0, true, false), 19);
        Check.due("its number", x.task(19, 2), 19);
        Check.due("its INIT", x.find(19, 1), 19);
        Check.due("a 21st", x.fork(0, true, false), FULL);
        Check.due("within the last", x.fork(19, true, false), FULL);
        Check.due("no new one, no matter", x.fork(0, false, false), 20);
        Check.due("in the last, too", x.fork(19, false, false), 21);
        Check.due("a space ends", x.exit(1), 1);
        Check.due("dead ones are counted", x.fork(0, true, false), FULL);
        Check.due("20 spaces", x.count(3), 20);
        Check.index("no space 20", () -> x.find(20, 1));
    }

    private static void spacesAround() {
        Check.sentence("(at most 4 around one: a fifth would be FULL)");
        TaskTrees x = new TaskTrees();
        for (int i = 1; i <= 4; i++) {
            Check.due("with " + i + " around", x.fork(i - 1, true, false), i);
        }
        for (int space = 0; space <= 4; space++) {
            Check.due("its number in " + space, x.number(4, space), 5 - space);
        }
        Check.due("a fifth around", x.fork(4, true, false), FULL);
        Check.due("a child there", x.fork(4, false, false), 5);
        Check.due("a fifth, by the child", x.fork(5, true, false), FULL);
        Check.due("the child's number", x.number(5, 4), 2);
        Check.due("again with 4 around", x.fork(3, true, false), 6);
        Check.due("a fifth around that", x.fork(6, true, false), FULL);
        Check.due("spaces", x.count(3), 6);
        Check.due("tasks", x.count(0), 7);
    }

    private static void numbersInASpace() {
        Check.sentence("in each of them it has a NUMBER 1 .. 40");
        TaskTrees x = withTasks(38);
        Check.due("39 is given", x.number(38, 0), 39);
        Check.due("40 is not", x.find(0, 40), NONE);
        Check.due("the last free one", x.fork(0, false, false), 39);
        Check.due("it is 40", x.number(39, 0), 40);
        Check.due("none is left", x.fork(0, false, false), FULL);
        Check.due("nor for a new space", x.fork(0, true, false), FULL);
        Check.due("nor for a new view", x.fork(0, false, true), FULL);
        Check.due("no space was made", x.count(3), 1);
        Check.due("no view was made", x.count(5), 1);
        Check.due("40 tasks", x.count(0), 40);
        Check.due("number 1", x.find(0, 1), 0);
        Check.due("number 40", x.find(0, 40), 39);
        Check.due("kill 40", x.kill(0, 40), 1);
        Check.due("one is left", x.fork(0, false, false), 40);
        Check.due("none again", x.fork(0, false, false), FULL);
    }

    private static void firstOfASpace() {
        Check.sentence("The first one of a space is its INIT, number 1.");
        TaskTrees x = withTasks(3);
        Check.due("the first", x.fork(2, true, false), 4);
        Check.due("its number", x.number(4, 1), 1);
        Check.due("the second", x.fork(4, false, false), 5);
        Check.due("its number, 2", x.number(5, 1), 2);
        Check.due("the first is spared", x.kill(5, 1), 0);
        Check.due("the second is not", x.kill(4, 2), 1);
        Check.due("the next is no INIT", x.number(x.fork(4, false, false), 1), 3);
        Check.due("nor spared", x.kill(4, 3), 1);
    }

    private static void behindFortyComesOne() {
        Check.sentence("the next number behind the one given last there (behind 40 comes 1)");
        TaskTrees x = withTasks(38);
        x.exit(1);
        x.exit(2);
        Check.due("2 is free, 39 was last", x.number(x.fork(0, false, false), 0), 40);
        Check.due("40 was last, 1 is held", x.number(x.fork(0, false, false), 0), 2);
        Check.due("then 3", x.number(x.fork(0, false, false), 0), 3);
        x.exit(40);
        x.exit(4);
        Check.due("3 was last, 2 is free", x.number(x.fork(0, false, false), 0), 5);
        Check.due("5 was last, round again", x.number(x.fork(0, false, false), 0), 2);
        x.exit(43);
        Check.due("the one given last itself", x.number(x.fork(0, false, false), 0), 2);
        Check.due("none", x.fork(0, false, false), FULL);
    }

    private static void behindFortyInside() {
        Check.sentence("A new task gets, in each space that it is in, the next number");
        TaskTrees x = withSpace(38);
        Check.due("outside 40", x.number(39, 0), 40);
        Check.due("inside 39", x.number(39, 1), 39);
        x.exit(2);
        x.reap(1);
        x.fork(1, false, false);
        Check.due("outside round to 3", x.number(40, 0), 3);
        Check.due("inside on to 40", x.number(40, 1), 40);
        x.exit(3);
        x.reap(1);
        x.fork(1, false, false);
        Check.due("outside on to 4", x.number(41, 0), 4);
        Check.due("inside round to 2", x.number(41, 1), 2);
        Check.due("found outside", x.find(0, 4), 41);
        Check.due("found inside", x.find(1, 2), 41);
    }

    private static void zombiesHoldNumbers() {
        Check.sentence("that no task there has that is live or a zombie");
        TaskTrees x = withSpace(38);
        Check.due("all are live", x.fork(1, false, false), FULL);
        x.exit(2);
        Check.due("one is a zombie", x.task(2, 0), 1);
        Check.due("it holds its number", x.fork(1, false, false), FULL);
        Check.due("it is gone", x.reap(1), 2);
        Check.due("its number is free", x.fork(1, false, false), 40);
        x.exit(5);
        x.exit(7);
        x.reap(1);
        Check.due("5 is gone, 7 a zombie", x.task(5, 0) + 10 * x.task(7, 0), 12);
        x.fork(1, false, false);
        Check.due("the gone one's", x.number(41, 0), 6);
        Check.due("the zombie's is held", x.fork(1, false, false), FULL);
        Check.due("the zombie's", x.find(0, 8), 7);
    }

    private static void fullOutsideStopsInside() {
        Check.sentence("-2 FULL (no room: tasks, spaces, groups, numbers, views, mounts)");
        TaskTrees x = withSpace(1);
        for (int i = 3; i <= 39; i++) {
            x.fork(0, false, false);
        }
        Check.due("outside all are held", x.find(0, 40), 39);
        Check.due("inside most are free", x.find(1, 3), NONE);
        Check.due("no room inside", x.fork(1, false, false), FULL);
        Check.due("nor in a new space", x.fork(1, true, true), FULL);
        x.exit(3);
        Check.due("room", x.fork(1, false, false), 40);
        Check.due("no number was lost inside", x.number(40, 1), 3);
        Check.due("the free one outside", x.number(40, 0), 4);
        Check.due("no space was made", x.count(3), 2);
        Check.due("no view was made", x.count(5), 1);
    }

    private static void forkOfALiveTask() {
        Check.sentence("FORK: a live task's child");
        TaskTrees x = withSpace(1);
        Check.due("a live one's", x.fork(2, false, false), 3);
        Check.due("its parent", x.task(3, 1), 2);
        x.exit(3);
        Check.due("a zombie's", x.fork(3, false, false), NONE);
        x.reap(1);
        x.reap(2);
        Check.due("a gone one's", x.fork(3, true, true), NONE);
        int[] never = {-1, 4, 150, LEAST, MOST};
        for (int t : never) {
            Check.due("fork(" + t + ")", x.fork(t, false, false), NONE);
        }
        Check.due("nothing came", x.count(0), 4);
    }

    private static void forkInItsGroupAndView() {
        Check.sentence("in its space, or, as its INIT, in a new one within it; in its group; "
                + "in its view, or a new one");
        TaskTrees x = new TaskTrees();
        x.group(0);
        x.fork(0, true, true);
        x.move(1, 1);
        int[][] due = {{1, 1, 1}, {1, 1, 2}, {2, 1, 1}, {3, 1, 3}};
        for (int i = 0; i < 4; i++) {
            int t = x.fork(1, i >= 2, i % 2 == 1);
            Check.due("space of " + t, x.task(t, 2), due[i][0]);
            Check.due("group of " + t, x.task(t, 3), due[i][1]);
            Check.due("view of " + t, x.task(t, 4), due[i][2]);
            Check.due("number of " + t, x.number(t, x.task(t, 2)), i < 2 ? i + 2 : 1);
        }
    }

    private static void mostOfTasks() {
        Check.sentence("LIMIT: a group around, or its own, has its most of tasks");
        TaskTrees x = withTasks(1);
        x.set(0, 1, 3);
        Check.due("the last one", x.fork(0, false, false), 2);
        Check.due("one too many", x.fork(0, false, false), TaskTrees.LIMIT);
        Check.due("with all new", x.fork(1, true, true), TaskTrees.LIMIT);
        x.exit(2);
        Check.due("one ended", x.fork(0, false, false), 3);
        Check.due("again too many", x.fork(0, false, false), TaskTrees.LIMIT);
        x.set(0, 1, 4);
        Check.due("one more", x.fork(0, false, false), 4);
        Check.due("no task, no limit", x.fork(5, false, false), NONE);
        Check.due("no space came", x.count(3), 1);
    }

    private static void mostOfAGroupAround() {
        Check.sentence("none has more live tasks (those in groups within, too) than its most");
        for (int limited = 0; limited <= 5; limited++) {
            TaskTrees x = withTasks(1);
            for (int g = 0; g < 5; g++) {
                x.group(g);
            }
            x.move(0, 5);
            x.move(1, 5);
            x.set(limited, 1, 3);
            Check.due("the third below " + limited, x.fork(1, false, false), 2);
            Check.due("a fourth below " + limited, x.fork(1, false, false), TaskTrees.LIMIT);
            Check.due("live in " + limited, x.told(limited, 1), 3);
        }
    }

    private static void exitGivesPagesBack() {
        Check.sentence("EXIT: a live task becomes a zombie; its pages are given back");
        int[] pages = {0, 1, 1000000};
        for (int n : pages) {
            TaskTrees x = withSpace(1);
            x.group(0);
            x.move(2, 1);
            x.charge(2, n);
            Check.due("used", x.told(0, 0), n);
            x.exit(2);
            Check.due("a zombie", x.task(2, 0), 1);
            Check.due("no pages", x.task(2, 5), 0);
            Check.due("its group's", x.told(1, 0), 0);
            Check.due("those around", x.told(0, 0), 0);
            Check.due("all may be had again", x.charge(0, 1000000), 1000000);
        }
    }

    private static void heirs() {
        Check.sentence("its children get the INIT of their parent's space as parent");
        TaskTrees x = withSpace(1);
        x.fork(2, false, false);
        x.fork(3, false, false);
        x.fork(3, true, false);
        x.fork(3, false, false);
        x.exit(6);
        Check.due("ahead of it", x.task(4, 1), 3);
        x.exit(3);
        Check.due("a live child", x.task(4, 1), 1);
        Check.due("the INIT of a space within", x.task(5, 1), 1);
        Check.due("a zombie child", x.task(6, 1), 1);
        Check.due("its own parent stays", x.task(3, 1), 2);
        Check.due("no child of its", x.task(2, 1), 1);

        TaskTrees y = withTasks(1);
        y.fork(1, true, false);
        y.exit(1);
        Check.due("in space 0 it is task 0", y.task(2, 1), 0);
    }

    private static void initEndsItsSpace() {
        Check.sentence("If it is the INIT of a space, all tasks of that space, and of those "
                + "within it, that are live, end with it");
        TaskTrees x = withTasks(2);
        x.fork(1, true, false);
        x.fork(3, false, false);
        x.fork(4, true, false);
        x.fork(5, true, false);
        x.fork(6, false, false);
        x.fork(2, true, false);
        Check.due("one that is no INIT", x.exit(7), 1);
        Check.due("the innermost INIT", x.exit(6), 1);
        x.fork(5, false, false);
        Check.due("all in the space and within", x.exit(3), 4);
        Check.due("itself is a zombie", x.task(3, 0), 1);
        int[] ended = {4, 5, 6, 7, 9};
        for (int t : ended) {
            Check.due("all but itself are gone, " + t, x.task(t, 0), 2);
        }
        int[] others = {0, 1, 2, 8};
        for (int t : others) {
            Check.due("outside all live, " + t, x.task(t, 0), 0);
        }
    }

    private static void initAlone() {
        Check.sentence("and all of these but itself are GONE at once");
        TaskTrees x = withTasks(1);
        x.fork(1, true, false);
        Check.due("nobody else", x.exit(2), 1);
        Check.due("a zombie of a live task", x.task(2, 0), 1);
        Check.due("with its parent", x.task(2, 1), 1);
        Check.due("with its number there", x.number(2, 1), 1);
        Check.due("and outside", x.number(2, 0), 3);
        Check.due("that may be reaped", x.reap(1), 3);

        TaskTrees y = withSpace(1);
        Check.due("task 0's child", y.exit(1), 2);
        Check.due("is gone, too", y.task(1, 0), 2);
        Check.due("and the other", y.task(2, 0), 2);
    }

    private static void nobodyIsKilledTwice() {
        Check.sentence("each in the same way (but nobody is killed twice)");
        TaskTrees x = withTasks(1);
        x.group(0);
        x.fork(1, true, false);
        for (int t = 2; t <= 5; t++) {
            x.fork(t, t < 5, false);
        }
        for (int t = 2; t <= 6; t++) {
            x.move(t, 1);
            x.charge(t, 10);
        }
        Check.due("live in the group", x.told(1, 1), 5);
        Check.due("used by it", x.told(1, 0), 50);
        Check.due("each of them once", x.exit(2), 5);
        Check.due("none is live there", x.told(1, 1), 0);
        Check.due("nothing is used", x.told(1, 0), 0);
        Check.due("live around", x.told(0, 1), 2);
        Check.due("live", x.count(1), 2);
        Check.due("one zombie", x.count(2), 1);
    }

    private static void zombiesGoWithTheInit() {
        Check.sentence("so are zombies there");
        TaskTrees x = withTasks(1);
        x.fork(1, true, false);
        x.fork(2, false, false);
        x.fork(2, true, false);
        x.fork(4, false, false);
        x.fork(1, false, false);
        x.exit(3);
        x.exit(5);
        x.exit(6);
        Check.due("zombies", x.count(2), 3);
        Check.due("two live ones end", x.exit(2), 2);
        Check.due("the one in the space", x.task(3, 0), 2);
        Check.due("the one within", x.task(5, 0), 2);
        Check.due("the one outside stays", x.task(6, 0), 1);
        Check.due("numbers", x.number(3, 0) + x.number(5, 0), 0);
        Check.due("zombies then", x.count(2), 2);
    }

    /** The INIT around would be their heir, and is not task 0: they go all the same. */
    private static void zombiesGoWithAnInnerInit() {
        Check.sentence("so are zombies there");
        TaskTrees x = withSpace(0);
        x.fork(1, true, false);
        x.fork(2, false, false);
        x.fork(2, true, false);
        x.fork(2, false, false);
        x.exit(3);
        x.exit(4);
        Check.due("two zombies of the inner INIT", x.count(2), 2);
        Check.due("it ends with one more", x.exit(2), 2);
        Check.due("a task of its space", x.task(3, 0), 2);
        Check.due("an INIT within", x.task(4, 0), 2);
        Check.due("they have no heir", x.task(3, 1) + x.task(4, 1), -2);
        Check.due("itself alone is a zombie", x.count(2), 1);
        Check.due("the INIT around reaps it", x.reap(1), 2);
        Check.due("and no other", x.reap(1), 0);
    }

    private static void deadSpaces() {
        Check.sentence("the space is DEAD: it gets no tasks any more");
        TaskTrees x = withTasks(1);
        x.fork(1, true, false);
        x.fork(2, false, false);
        x.exit(2);
        Check.due("none by its INIT", x.fork(2, false, false), NONE);
        Check.due("none by another", x.fork(3, false, false), NONE);
        Check.due("its INIT has number 1 still", x.find(1, 1), 2);
        Check.due("its parent's child is outside", x.task(x.fork(1, false, false), 2), 0);
        Check.due("a new space is another", x.task(x.fork(1, true, false), 2), 2);
        x.reap(1);
        Check.due("nobody has number 1", x.find(1, 1), NONE);
        Check.due("its numbers may be asked for", x.number(0, 1), 0);
        Check.due("it is counted", x.count(3), 3);
    }

    private static void zombiesOfTaskZero() {
        Check.sentence("Then a zombie whose parent is not live is GONE at once, and so is one "
                + "that task 0 has as a child.");
        TaskTrees x = withTasks(2);
        x.fork(1, false, false);
        x.fork(1, false, false);
        x.fork(2, false, false);
        x.exit(3);
        x.exit(5);
        Check.due("of a live parent", x.task(3, 0), 1);
        Check.due("of another live parent", x.task(5, 0), 1);
        x.exit(2);
        Check.due("a child of task 0", x.task(2, 0), 2);
        Check.due("one that task 0 gets", x.task(5, 0), 2);
        Check.due("the other one stays", x.task(3, 0), 1);
        x.exit(1);
        Check.due("it gets that one, too", x.task(3, 0), 2);
        Check.due("a live one stays", x.task(4, 0), 0);
        Check.due("task 0 never has one", x.reap(0), 0);
    }

    private static void goneTasks() {
        Check.sentence("A task that is gone has no numbers, no children, no parent (-1).");
        TaskTrees x = withTasks(1);
        x.fork(1, true, false);
        x.fork(2, false, false);
        x.fork(3, false, false);
        x.exit(3);
        Check.due("a zombie's parent", x.task(3, 1), 2);
        Check.due("a zombie's number", x.number(3, 0), 4);
        Check.due("a zombie's number within", x.number(3, 1), 2);
        Check.due("a zombie's child is its heir's", x.task(4, 1), 2);
        x.reap(2);
        Check.due("no parent", x.task(3, 1), -1);
        Check.due("no number", x.number(3, 0), 0);
        Check.due("no number within", x.number(3, 1), 0);
        Check.due("nobody has it", x.find(0, 4), NONE);
        Check.due("nor within", x.find(1, 2), NONE);
        Check.due("the live one's stays", x.find(1, 3), 4);
        x.exit(2);
        Check.due("gone with the INIT: no parent", x.task(4, 1), -1);
        Check.due("gone with the INIT: no number", x.number(4, 0) + x.number(4, 1), 0);
    }

    private static void exitAnswers() {
        Check.sentence("EXIT: how many tasks are live no more. NONE (also task 0).");
        TaskTrees x = withSpace(2);
        Check.due("task 0", x.exit(0), NONE);
        Check.due("one", x.exit(3), 1);
        Check.due("a zombie", x.exit(3), NONE);
        Check.due("two; the zombie does not count", x.exit(1), 2);
        Check.due("a gone one", x.exit(1), NONE);
        int[] never = {-1, 4, 150, LEAST, MOST};
        for (int t : never) {
            Check.due("exit(" + t + ")", x.exit(t), NONE);
        }
        Check.due("live", x.count(1), 1);
    }

    private static void reapOfTheLeastNumber() {
        Check.sentence("REAP: a live task's child that is a zombie, the one with the least "
                + "number in the task's space, is GONE.");
        TaskTrees x = withSpace(38);
        x.exit(2);
        Check.due("one alone", x.reap(1), 2);
        x.fork(1, false, false);
        x.exit(40);
        x.exit(39);
        x.exit(3);
        Check.due("3 of 3, 39, 40", x.reap(1), 3);
        Check.due("39 of 39, 40", x.reap(1), 39);
        Check.due("40", x.reap(1), 40);
        Check.due("none", x.reap(1), 0);
        x.fork(1, false, false);
        Check.due("it has the number 2", x.number(41, 1), 2);
        x.exit(38);
        x.exit(41);
        Check.due("the least number, not the least task", x.reap(1), 2);
        Check.due("the higher task is gone", x.task(41, 0), 2);
        Check.due("the lower one is not", x.task(38, 0), 1);
    }

    private static void reapAnswers() {
        Check.sentence("the number that it had in the task's space; 0 when there is no zombie");
        TaskTrees x = withTasks(1);
        x.fork(1, true, false);
        x.fork(2, false, false);
        x.fork(3, true, false);
        x.fork(3, false, false);
        Check.due("live children alone", x.reap(3), 0);
        Check.due("no children", x.reap(5), 0);
        x.exit(4);
        Check.due("another's child", x.reap(2), 0);
        Check.due("another's child, outside", x.reap(1), 0);
        Check.due("in the task's space", x.reap(3), 3);
        Check.due("once", x.reap(3), 0);
        x.exit(5);
        x.exit(3);
        Check.due("a zombie reaps", x.reap(3), NONE);
        int[] none = {-1, 6, 150, LEAST, MOST};
        for (int t : none) {
            Check.due("reap(" + t + ")", x.reap(t), NONE);
        }
        Check.due("a gone one reaps", x.reap(4), NONE);
        Check.due("the heir reaps the first", x.reap(2), 2);
        Check.due("and the second", x.reap(2), 4);
        Check.due("and no more", x.reap(2), 0);
    }

    private static void killSparesInits() {
        Check.sentence("the task EXITS that has it there, if it is live; but not the INIT of "
                + "the sender's own space, and not task 0");
        TaskTrees x = withTasks(1);
        x.fork(1, true, false);
        x.fork(2, false, false);
        x.fork(3, true, false);
        x.fork(4, false, false);
        Check.due("task 0, by itself", x.kill(0, 1), 0);
        Check.due("task 0, by another", x.kill(1, 1), 0);
        Check.due("its own INIT", x.kill(3, 1), 0);
        Check.due("itself, an INIT", x.kill(2, 1), 0);
        Check.due("the own INIT of the innermost", x.kill(5, 1), 0);
        Check.due("all live", x.count(1), 6);
        Check.due("an INIT within", x.kill(3, 3), 2);
        Check.due("itself", x.kill(3, 2), 1);
        Check.due("an INIT from outside", x.kill(1, 3), 1);
        Check.due("live", x.count(1), 2);
    }

    private static void killAnswers() {
        Check.sentence("0 if it does not end. NONE (the task, or no task that is live or a "
                + "zombie has that number)");
        TaskTrees x = withSpace(2);
        int[] none = {0, 4, 40, 41, -1, LEAST, MOST};
        for (int n : none) {
            Check.due("number " + n, x.kill(1, n), NONE);
        }
        Check.due("a live one", x.kill(1, 3), 1);
        Check.due("a zombie", x.kill(1, 3), 0);
        x.reap(1);
        Check.due("a gone one", x.kill(1, 3), NONE);
        Check.due("by a gone one", x.kill(3, 1), NONE);
        x.exit(2);
        Check.due("by a zombie", x.kill(2, 2), NONE);
        int[] never = {-1, 4, 150, LEAST, MOST};
        for (int t : never) {
            Check.due("by " + t, x.kill(t, 1), NONE);
        }
        TaskTrees y = withTasks(39);
        Check.due("number 40", y.kill(1, 40), 1);
        Check.due("number 40, gone", y.kill(1, 40), NONE);
        Check.due("number 41", y.kill(1, 41), NONE);
    }

    private static void numberAnswers() {
        Check.sentence("A task's number in a space; 0 when it is not in it, or gone.");
        TaskTrees x = withSpace(1);
        x.fork(0, true, false);
        Check.due("in it", x.number(2, 1), 2);
        Check.due("around it", x.number(2, 0), 3);
        Check.due("beside it", x.number(2, 2), 0);
        Check.due("from outside", x.number(0, 1), 0);
        Check.due("the INIT", x.number(3, 2), 1);
        x.exit(2);
        Check.due("a zombie", x.number(2, 1), 2);
        x.reap(1);
        Check.due("gone", x.number(2, 1), 0);
        Check.due("gone, outside", x.number(2, 0), 0);
        Check.sentence("IndexOutOfBoundsException: there was no such space.");
        int[] spaces = {-1, 3, 19, 20, LEAST, MOST};
        for (int s : spaces) {
            Check.index("space " + s, () -> x.number(0, s));
            Check.index("space " + s + " of no task", () -> x.number(-1, s));
        }
        Check.due("the last space", x.number(3, 2), 1);
        Check.due("no task there", x.number(4, 2), NONE);
        x.exit(3);
        Check.due("a dead space was there", x.number(0, 2), 0);
    }

    private static void findAnswers() {
        Check.sentence("The task that has a number in a space; NONE.");
        TaskTrees x = withSpace(1);
        int[] none = {0, 3, 40, 41, -1, LEAST, MOST};
        for (int n : none) {
            Check.due("number " + n, x.find(1, n), NONE);
        }
        Check.due("the first", x.find(1, 1), 1);
        Check.due("the second", x.find(1, 2), 2);
        int[] spaces = {-1, 2, 19, 20, LEAST, MOST};
        for (int s : spaces) {
            Check.index("space " + s, () -> x.find(s, 1));
            Check.index("space " + s + ", number 0", () -> x.find(s, 0));
        }
        x.exit(2);
        Check.due("a zombie", x.find(1, 2), 2);
        x.reap(1);
        Check.due("gone", x.find(1, 2), NONE);
    }

    private static void taskWhat() {
        Check.sentence("Of a task: what = 0 its state (0 LIVE, 1 ZOMBIE, 2 GONE)");
        TaskTrees x = withSpace(1);
        x.sleep(2, true);
        Check.due("what 0", x.task(2, 0), 0);
        Check.due("what 7", x.task(2, 7), 1);
        Check.due("what 7, awake", x.task(1, 7), 0);
        int[] wrong = {-1, 8, LEAST, MOST};
        for (int what : wrong) {
            Check.index("what " + what, () -> x.task(0, what));
            Check.index("what " + what + " of no task", () -> x.task(3, what));
        }
        x.exit(2);
        Check.due("a zombie", x.task(2, 0), 1);
        x.reap(1);
        Check.due("gone", x.task(2, 0), 2);
        Check.due("never", x.task(3, 0), NONE);
        Check.due("never, what 7", x.task(3, 7), NONE);
    }

    private static void pagesUnlessLive() {
        Check.sentence("5 pages (0 unless live)");
        TaskTrees x = withSpace(1);
        x.charge(2, 7);
        Check.due("live", x.task(2, 5), 7);
        x.exit(2);
        Check.due("a zombie", x.task(2, 5), 0);
        x.reap(1);
        Check.due("gone", x.task(2, 5), 0);
        x.charge(1, 9);
        Check.due("live again", x.task(1, 5), 9);
        x.exit(1);
        Check.due("gone at once", x.task(1, 5), 0);
    }

    private static void countWhat() {
        Check.sentence("How many: what = 0 tasks ever, 1 live ones, 2 zombies, 3 spaces, 4 groups, "
                + "5 views, 6 mounts there are, 7 ticks, 8 victims so far");
        TaskTrees x = new TaskTrees();
        Check.due("what 0", x.count(0), 1);
        Check.due("what 8", x.count(8), 0);
        int[] wrong = {-1, 9, LEAST, MOST};
        for (int what : wrong) {
            Check.index("what " + what, () -> x.count(what));
        }
        x.fork(0, true, true);
        x.fork(1, false, false);
        x.exit(2);
        x.group(0);
        x.mount(1, 2, 1, false);
        x.ticks(1);
        int[] counts = {3, 2, 1, 2, 2, 2, 3, 1, 0};
        for (int what = 0; what < 9; what++) {
            Check.due("count(" + what + ")", x.count(what), counts[what]);
        }
        x.exit(1);
        x.unmount(0, 2);
        int[] then = {3, 1, 0, 2, 2, 2, 3, 1, 0};
        for (int what = 0; what < 9; what++) {
            Check.due("count(" + what + ") then", x.count(what), then[what]);
        }
    }

    private static void countOfVictims() {
        Check.sentence("8 victims so far (each one that was taken so; not the tasks that end "
                + "with an INIT)");
        TaskTrees x = withSpace(2);
        x.charge(1, 50);
        x.charge(2, 40);
        x.fork(0, false, false);
        x.charge(4, 10);
        x.set(0, 0, 100);
        Check.due("room", x.charge(0, 0), 0);
        Check.due("none so far", x.count(8), 0);
        Check.due("a charge", x.charge(0, 1), 1);
        Check.due("an INIT and two more ended", x.count(1), 2);
        Check.due("one victim", x.count(8), 1);
        Check.due("a charge again", x.charge(0, 99), 100);
        Check.due("two victims", x.count(8), 2);
        x.fork(0, false, false);
        x.exit(5);
        x.fork(0, false, false);
        x.kill(0, x.number(6, 0));
        Check.due("exit and kill do not count", x.count(8), 2);
    }
}
