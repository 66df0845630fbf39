/**
 * The edges that the document names for the clock (Terms, promises 18 to 21): a test for each
 * sentence, at the edge and on both sides of it.
 */
public final class ClockEdgesTest {
    private static final int NONE = TaskTrees.NONE;
    private static final int LEAST = Integer.MIN_VALUE, MOST = Integer.MAX_VALUE;

    public static void main(String[] args) {
        ticksArguments();
        ticksAnswer();
        ticksOfTheLast();
        readyTasks();
        readyGroups();
        quotaOfEach();
        quotaOfNone();
        quotaIsChanged();
        quotaOfOneAround();
        periodEdges();
        periodWithoutRuns();
        leastTime();
        leastTimeOfGroups();
        taskBeforeGroup();
        lowerNumber();
        timeOfATask();
        timeByWeight();
        groupZeroDoesNotMatter();
        nothingRuns();
        newTaskComes();
        newTaskAmongNone();
        newGroupComes();
        wakes();
        fallsAsleep();
        wakesAmongNone();
        moved();
        movedAmongNone();
        groupsOverQuotaDoNotCount();
        sleepAnswers();
        ranAnswers();
        timeAnswers();
        toldOfThePeriod();
        Check.end();
    }

    /** Task 0 asleep, and for each weight a group 1, 2, .. with a task 1, 2, .. in it. */
    private static TaskTrees weighed(int... weights) {
        TaskTrees x = new TaskTrees();
        for (int g = 1; g <= weights.length; g++) {
            x.group(0);
            x.set(g, 2, weights[g - 1]);
            x.fork(0, false, false);
            x.move(g, g);
        }
        x.sleep(0, true);
        return x;
    }

    private static void ticksArguments() {
        Check.sentence("So many ticks (0 .. 200)");
        TaskTrees x = new TaskTrees();
        Check.due("0", x.ticks(0), NONE);
        Check.due("none so far", x.count(7), 0);
        Check.due("1", x.ticks(1), 0);
        Check.due("one so far", x.count(7), 1);
        Check.due("199", x.ticks(199), 0);
        Check.due("200", x.ticks(200), 0);
        Check.due("400 so far", x.count(7), 400);
        int[] wrong = {-1, 201, LEAST, MOST};
        for (int n : wrong) {
            Check.argument("n " + n, () -> x.ticks(n));
        }
        Check.due("no more", x.count(7), 400);
        Check.due("ran", x.ran(0), 400);
    }

    private static void ticksAnswer() {
        Check.sentence("the task that ran in the last one; NONE (none did, or no tick)");
        TaskTrees x = weighed(100);
        x.set(1, 3, 2);
        Check.due("no tick", x.ticks(0), NONE);
        Check.due("the last of two", x.ticks(2), 1);
        Check.due("none did", x.ticks(1), NONE);
        Check.due("no tick again", x.ticks(0), NONE);
        Check.due("none in the last, some before", x.ticks(20), NONE);
        Check.due("they ran", x.ran(1), 4);
        Check.due("some in the last, none before", x.ticks(18), 1);
        Check.due("they ran then", x.ran(1), 5);
    }

    private static void ticksOfTheLast() {
        Check.sentence("the task that ran in the last one");
        TaskTrees x = new TaskTrees();
        x.fork(0, false, false);
        x.fork(0, false, false);
        Check.due("one tick", x.ticks(1), 0);
        Check.due("two ticks", x.ticks(2), 2);
        Check.due("four ticks", x.ticks(4), 0);
        Check.due("200 ticks", x.ticks(200), 2);
    }

    private static void readyTasks() {
        Check.sentence("A task is READY, if it is live and not asleep");
        TaskTrees x = new TaskTrees();
        x.fork(0, true, false);
        x.fork(1, false, false);
        x.sleep(0, true);
        x.sleep(1, true);
        Check.due("the one awake", x.ticks(5), 2);
        x.sleep(2, true);
        Check.due("none awake", x.ticks(5), NONE);
        x.sleep(2, false);
        Check.due("awake again", x.ticks(1), 2);
        x.exit(2);
        Check.due("a zombie", x.ticks(5), NONE);
        x.reap(1);
        Check.due("gone", x.ticks(1), NONE);
        Check.due("ticks for all that", x.count(7), 17);
        Check.due("ran", x.ran(2), 6);
    }

    private static void readyGroups() {
        Check.sentence("a group, if a member of it is ready that it may run");
        TaskTrees x = weighed(100, 100);
        x.group(1);
        x.group(3);
        x.move(1, 4);
        Check.due("deep within", x.ticks(1), 1);
        Check.due("then the other", x.ticks(1), 2);
        x.sleep(1, true);
        Check.due("asleep deep within", x.ticks(3), 2);
        x.sleep(1, false);
        Check.due("awake deep within", x.ticks(1), 1);
        x.exit(1);
        Check.due("nobody there", x.ticks(6), 2);
        Check.due("groups without a task have no ticks", x.told(4, 7), 2);
    }

    private static void quotaOfEach() {
        Check.sentence("and it has no quota, or ran in fewer ticks of this PERIOD than that");
        for (int quota = 1; quota <= 19; quota++) {
            TaskTrees x = weighed(100);
            x.set(1, 3, quota);
            Check.due("the last one of " + quota, x.ticks(quota), 1);
            Check.due("ran", x.told(1, 7), quota);
            Check.due("one beyond " + quota, x.ticks(1), NONE);
            x.ticks(20 - quota - 1);
            Check.due("to the period's end", x.ran(1), quota);
            Check.due("the next period", x.ticks(quota), 1);
            Check.due("beyond it again", x.ticks(1), NONE);
            Check.due("ran in both", x.ran(1), 2 * quota);
        }
        TaskTrees x = weighed(100);
        x.set(1, 3, 20);
        Check.due("a quota of 20: all of 19", x.ticks(19), 1);
        Check.due("the 20th", x.ticks(1), 1);
        Check.due("the 21st", x.ticks(1), 1);
        x.ticks(99);
        Check.due("in all ticks", x.ran(1), 120);
    }

    private static void quotaOfNone() {
        Check.sentence("a QUOTA (0: none)");
        TaskTrees x = weighed(100);
        Check.due("none at first", x.told(1, 6), 0);
        Check.due("all ticks", x.ticks(60), 1);
        Check.due("ran", x.ran(1), 60);
        x.set(1, 3, 1);
        x.ticks(20);
        Check.due("one of 20", x.ran(1), 61);
        x.set(1, 3, 0);
        x.ticks(20);
        Check.due("none again", x.ran(1), 81);
    }

    private static void quotaIsChanged() {
        Check.sentence("or ran in fewer ticks of this PERIOD than that");
        TaskTrees x = weighed(100);
        x.ticks(5);
        x.set(1, 3, 4);
        Check.due("less than it ran", x.ticks(1), NONE);
        x.set(1, 3, 5);
        Check.due("just what it ran", x.ticks(1), NONE);
        x.set(1, 3, 6);
        Check.due("one more than it ran", x.ticks(1), 1);
        Check.due("and no more", x.ticks(1), NONE);
        Check.due("in this period", x.told(1, 7), 6);
        x.group(0);
        x.set(2, 3, 1);
        x.move(1, 2);
        Check.due("another group's own ticks", x.ticks(1), 1);
        Check.due("that is enough", x.ticks(1), NONE);
    }

    private static void quotaOfOneAround() {
        Check.sentence("a group, if a member of it is ready that it may run, and it has no quota");
        TaskTrees x = weighed(100);
        x.group(1);
        x.group(2);
        x.fork(0, false, false);
        x.move(1, 3);
        x.move(2, 1);
        x.sleep(2, true);
        x.set(2, 3, 2);
        Check.due("within the middle one's", x.ticks(2), 1);
        Check.due("beyond it", x.ticks(1), NONE);
        x.sleep(2, false);
        Check.due("the outer one has another", x.ticks(1), 2);
        x.set(1, 3, 4);
        Check.due("its fourth", x.ticks(1), 2);
        Check.due("beyond the outer one's", x.ticks(1), NONE);
        x.set(2, 3, 0);
        Check.due("that holds for all within", x.ticks(1), NONE);
        Check.due("outer", x.told(1, 7), 4);
        Check.due("middle", x.told(2, 7), 2);
        Check.due("inner", x.told(3, 7), 2);
    }

    private static void periodEdges() {
        Check.sentence("(PERIODS are of 20 ticks; behind the 20th the next one begins)");
        TaskTrees x = weighed(100);
        x.set(1, 3, 3);
        Check.due("behind the 19th", x.ticks(19), NONE);
        Check.due("in this period", x.told(1, 7), 3);
        Check.due("the 20th", x.ticks(1), NONE);
        Check.due("in the next period", x.told(1, 7), 0);
        Check.due("the 21st", x.ticks(1), 1);
        Check.due("one in the next", x.told(1, 7), 1);
        x.ticks(18);
        Check.due("behind the 39th", x.told(1, 7), 3);
        x.ticks(1);
        Check.due("behind the 40th", x.told(1, 7), 0);
        x.ticks(200);
        Check.due("ten periods on", x.ran(1), 36);
        Check.due("and at a beginning", x.told(1, 7), 0);

        TaskTrees y = weighed(100);
        y.ticks(20);
        Check.due("a 20th that ran is of the old one", y.told(1, 7), 0);
        y.ticks(1);
        Check.due("a 21st that ran", y.told(1, 7), 1);
    }

    private static void periodWithoutRuns() {
        Check.sentence("Nothing runs, if none is ready.");
        TaskTrees x = weighed(100);
        x.set(1, 3, 5);
        x.sleep(1, true);
        x.ticks(13);
        x.sleep(1, false);
        Check.due("seven are left", x.ticks(5), 1);
        Check.due("two without", x.ticks(2), NONE);
        Check.due("empty ticks are of the period", x.ticks(1), 1);
        Check.due("time does not grow of empty ones", x.time(false, 1), 60000);
        Check.due("nor a group's", x.time(true, 1), 60000);
    }

    private static void leastTime() {
        Check.sentence("A TICK: from group 0 on the ready member with the least time");
        TaskTrees x = new TaskTrees();
        x.fork(0, false, false);
        x.sleep(1, true);
        x.ticks(3);
        x.sleep(0, true);
        x.sleep(1, false);
        x.sleep(0, false);
        Check.due("0 has", x.time(false, 0), 30000);
        Check.due("1 has", x.time(false, 1), 0);
        for (int i = 1; i <= 3; i++) {
            Check.due("1 has less", x.ticks(1), 1);
        }
        Check.due("both have the same", x.ticks(1), 0);
        Check.due("1 has less again", x.ticks(1), 1);
    }

    private static void leastTimeOfGroups() {
        Check.sentence("if it is a group, on in it; the task RUNS");
        TaskTrees x = weighed(1000, 999);
        Check.due("both 0", x.ticks(1), 1);
        Check.due("the other", x.ticks(1), 2);
        Check.due("1000 and 1001", x.time(true, 2) - x.time(true, 1), 1);
        Check.due("one less", x.ticks(1), 1);
        Check.due("2000 and 1001", x.ticks(1), 2);
        x.fork(2, false, false);
        Check.due("in it the least, too", x.time(false, 3), 20000);
        Check.due("2000 and 2002", x.ticks(1), 1);
        Check.due("the lower one there", x.ticks(1), 2);
        Check.due("3000 and 3003", x.ticks(1), 1);
        Check.due("the other one there", x.ticks(1), 3);
    }

    private static void taskBeforeGroup() {
        Check.sentence("of the same a task before a group");
        TaskTrees x = weighed(100);
        x.sleep(0, false);
        Check.due("both 0: task 0", x.ticks(1), 0);
        Check.due("then the group", x.ticks(1), 1);
        Check.due("both 10000: task 0", x.ticks(1), 0);
        Check.due("then the group again", x.ticks(1), 1);
        x.set(1, 2, 101);
        x.ticks(2);
        Check.due("a group with less", x.time(true, 1), 29900);
        Check.due("is before the task", x.ticks(1), 1);
        Check.due("then the task", x.ticks(1), 0);
        TaskTrees y = weighed(99);
        y.sleep(0, false);
        y.ticks(2);
        Check.due("a group with more", y.time(true, 1), 10101);
        Check.due("is behind the task", y.ticks(1), 0);
        Check.due("then the group", y.ticks(1), 1);
    }

    private static void lowerNumber() {
        Check.sentence("then the lower number");
        TaskTrees x = new TaskTrees();
        x.group(0);
        for (int t = 1; t <= 3; t++) {
            x.fork(0, false, false);
        }
        for (int round = 0; round < 2; round++) {
            for (int t = 0; t <= 3; t++) {
                Check.due("task by task", x.ticks(1), t);
            }
        }
        TaskTrees y = weighed(100, 100, 100);
        for (int round = 0; round < 2; round++) {
            for (int t = 1; t <= 3; t++) {
                Check.due("group by group", y.ticks(1), t);
            }
        }
        TaskTrees z = weighed(100, 100);
        z.move(1, 0);
        z.move(2, 1);
        z.move(1, 2);
        Check.due("the lower group, not the lower task", z.ticks(1), 2);
        Check.due("then the other", z.ticks(1), 1);
    }

    private static void timeOfATask() {
        Check.sentence("its time grows by 10000");
        TaskTrees x = new TaskTrees();
        Check.due("ahead of it", x.time(false, 0), 0);
        x.ticks(1);
        Check.due("one tick", x.time(false, 0), 10000);
        x.ticks(200);
        Check.due("201 ticks", x.time(false, 0), 2010000);
        TaskTrees y = weighed(7);
        y.ticks(3);
        Check.due("whatever its group's weight", y.time(false, 1), 30000);
    }

    private static void timeByWeight() {
        Check.sentence("that of each group on the way (but 0) by 1000000 / its weight");
        int[] weights = {1, 2, 3, 7, 99, 100, 101, 999, 1000};
        int[] steps = {1000000, 500000, 333333, 142857, 10101, 10000, 9900, 1001, 1000};
        for (int i = 0; i < weights.length; i++) {
            TaskTrees x = weighed(weights[i]);
            x.ticks(1);
            Check.due("weight " + weights[i], x.time(true, 1), steps[i]);
            x.ticks(2);
            Check.due("three times " + weights[i], x.time(true, 1), 3L * steps[i]);
        }
        TaskTrees x = weighed(3);
        x.group(1);
        x.set(2, 2, 1000);
        x.move(1, 2);
        x.ticks(2);
        Check.due("the inner one", x.time(true, 2), 2000);
        Check.due("the one around it", x.time(true, 1), 666666);
        Check.due("group 0", x.time(true, 0), 0);
        x.set(1, 2, 4);
        x.ticks(1);
        Check.due("a weight that is changed", x.time(true, 1), 916666);
    }

    private static void groupZeroDoesNotMatter() {
        Check.sentence("(Of group 0 weight and quota do not matter.)");
        TaskTrees x = new TaskTrees();
        x.set(0, 2, 1);
        x.set(0, 3, 1);
        Check.due("beyond its quota", x.ticks(19), 0);
        Check.due("ticks in which it ran", x.told(0, 7), 19);
        Check.due("its task's time", x.time(false, 0), 190000);
        Check.due("its time", x.time(true, 0), 0);
        Check.due("they are told", x.told(0, 5) + 1000 * x.told(0, 6), 1001);
    }

    private static void nothingRuns() {
        Check.sentence("Nothing runs, if none is ready.");
        TaskTrees x = new TaskTrees();
        x.sleep(0, true);
        Check.due("asleep", x.ticks(7), NONE);
        Check.due("no run", x.ran(0), 0);
        Check.due("no time", x.time(false, 0), 0);
        Check.due("they are ticks", x.count(7), 7);
        Check.due("in none of which group 0 ran", x.told(0, 7), 0);
        x.sleep(0, false);
        Check.due("awake", x.ticks(1), 0);
        Check.due("then it ran", x.told(0, 7), 1);
    }

    private static void newTaskComes() {
        Check.sentence("A member that comes (a new task or group; a task that wakes, or was "
                + "moved) gets the least time of the other ready members of its group, if its own "
                + "is less (a new one's is 0)");
        TaskTrees x = new TaskTrees();
        x.fork(0, false, false);
        Check.due("the others have 0", x.time(false, 1), 0);
        x.sleep(1, true);
        x.ticks(1);
        x.fork(0, false, false);
        Check.due("10000", x.time(false, 2), 10000);
        x.ticks(3);
        Check.due("0 has", x.time(false, 0), 30000);
        Check.due("2 has", x.time(false, 2), 20000);
        x.fork(0, false, false);
        Check.due("the least of the two, the sleeper aside", x.time(false, 3), 20000);
        x.group(0);
        x.set(1, 2, 1000);
        Check.due("a new group, too", x.time(true, 1), 20000);
        x.sleep(0, true);
        x.sleep(2, true);
        x.move(3, 1);
        x.fork(0, false, false);
        Check.due("a ready group alone", x.time(false, 4), 20000);
        x.sleep(4, true);
        x.ticks(1);
        x.fork(0, false, false);
        Check.due("a ready group's time, a step on", x.time(false, 5), 21000);
    }

    private static void newTaskAmongNone() {
        Check.sentence("if there are none, its own stays");
        TaskTrees x = new TaskTrees();
        x.group(0);
        x.fork(0, false, false);
        x.ticks(4);
        x.sleep(0, true);
        x.fork(0, false, false);
        Check.due("one is ready", x.time(false, 2), 20000);
        x.sleep(1, true);
        x.sleep(2, true);
        x.fork(0, false, false);
        Check.due("none is ready", x.time(false, 3), 0);
        x.sleep(3, true);
        x.group(0);
        Check.due("for a group, too", x.time(true, 2), 0);
    }

    private static void newGroupComes() {
        Check.sentence("A member that comes (a new task or group");
        TaskTrees x = new TaskTrees();
        x.group(0);
        Check.due("the others have 0", x.time(true, 1), 0);
        x.ticks(2);
        x.group(0);
        Check.due("the others have 20000", x.time(true, 2), 20000);
        x.group(1);
        Check.due("in an empty one", x.time(true, 3), 0);
        x.fork(0, false, false);
        x.move(1, 1);
        x.ticks(2);
        Check.due("task 1 ran", x.time(false, 1), 20000);
        x.group(1);
        Check.due("beside task 1", x.time(true, 4), 20000);
        Check.due("group 1 ran", x.time(true, 1), 20000);
        x.group(0);
        Check.due("beside task 0 and group 1", x.time(true, 5), 20000);
        x.group(4);
        Check.due("in an empty one again", x.time(true, 6), 0);
        x.ticks(1);
        x.sleep(1, true);
        x.group(0);
        Check.due("group 1 is not ready", x.time(true, 7), 30000);
    }

    private static void wakes() {
        Check.sentence("a task that wakes");
        TaskTrees x = new TaskTrees();
        x.fork(0, false, false);
        x.fork(0, false, false);
        x.ticks(3);
        x.sleep(2, true);
        x.sleep(2, false);
        Check.due("its own is the same", x.time(false, 2), 10000);
        x.ticks(3);
        x.sleep(2, true);
        x.ticks(1);
        x.sleep(2, false);
        Check.due("its own is not less", x.time(false, 2), 20000);
        x.sleep(2, true);
        x.ticks(3);
        x.sleep(2, false);
        Check.due("its own is less", x.time(false, 2), 40000);
        x.ticks(3);
        x.sleep(0, true);
        x.sleep(1, true);
        x.ticks(2);
        x.sleep(0, false);
        Check.due("the least of the ready", x.time(false, 0), 70000);
        x.sleep(1, false);
        Check.due("the same for the next", x.time(false, 1), 70000);
        x.sleep(1, false);
        Check.due("awake already", x.time(false, 1), 70000);
    }

    /** One that falls asleep does not come: its time is what it was, and counts when it wakes. */
    private static void fallsAsleep() {
        Check.sentence("a task that wakes");
        TaskTrees x = new TaskTrees();
        x.fork(0, false, false);
        x.ticks(1);
        Check.due("0 is ahead", x.time(false, 0), 10000);
        x.sleep(1, true);
        Check.due("the time that it had", x.time(false, 1), 0);
        x.sleep(1, true);
        Check.due("asleep already", x.time(false, 1), 0);
        x.sleep(0, true);
        x.sleep(1, false);
        Check.due("no other is ready, its own stays", x.time(false, 1), 0);
    }

    private static void wakesAmongNone() {
        Check.sentence("if there are none, its own stays (0 of one that was moved)");
        TaskTrees x = new TaskTrees();
        x.fork(0, false, false);
        x.ticks(5);
        x.sleep(0, true);
        x.sleep(1, true);
        x.sleep(1, false);
        Check.due("its own", x.time(false, 1), 20000);
        x.sleep(0, false);
        Check.due("its own is more", x.time(false, 0), 30000);
        TaskTrees y = new TaskTrees();
        y.ticks(3);
        y.sleep(0, true);
        y.ticks(3);
        y.sleep(0, false);
        Check.due("nobody else", y.time(false, 0), 30000);
    }

    private static void moved() {
        Check.sentence("or it was moved");
        TaskTrees x = new TaskTrees();
        x.group(0);
        x.group(0);
        for (int t = 1; t <= 4; t++) {
            x.fork(0, false, false);
        }
        x.move(1, 1);
        x.move(2, 1);
        x.sleep(0, true);
        x.sleep(3, true);
        x.sleep(4, true);
        x.ticks(3);
        Check.due("1 has", x.time(false, 1), 20000);
        Check.due("2 has", x.time(false, 2), 10000);
        x.move(3, 1);
        Check.due("its own was less, asleep or not", x.time(false, 3), 10000);
        x.move(1, 2);
        x.ticks(3);
        x.move(2, 2);
        Check.due("the one there has", x.time(false, 1), 30000);
        Check.due("its own was less", x.time(false, 2), 30000);
        x.ticks(2);
        x.move(1, 1);
        x.move(1, 2);
        Check.due("its own was 0", x.time(false, 1), x.time(false, 2));
        x.move(2, 0);
        x.ticks(9);
        long more = x.time(false, 2);
        x.move(2, 2);
        Check.due("its own was more", x.time(false, 2) < more ? 1 : 0, 1);
        Check.due("it is the other's", x.time(false, 2), x.time(false, 1));
    }

    private static void movedAmongNone() {
        Check.sentence("(0 of one that was moved)");
        TaskTrees x = new TaskTrees();
        x.group(0);
        x.group(1);
        x.fork(0, false, false);
        x.fork(0, false, false);
        x.ticks(6);
        Check.due("its own", x.time(false, 1), 20000);
        x.move(1, 1);
        Check.due("into an empty one", x.time(false, 1), 0);
        x.sleep(1, true);
        x.move(2, 1);
        Check.due("to one that sleeps", x.time(false, 2), 0);
        x.ticks(4);
        x.move(2, 1);
        Check.due("it was there already", x.time(false, 2) > 0 ? 1 : 0, 1);
        x.move(2, 2);
        Check.due("further in", x.time(false, 2), 0);
        x.ticks(3);
        x.move(2, 1);
        Check.due("out: the group that it left is not ready", x.time(false, 2), 0);
        x.sleep(0, true);
        x.move(2, 0);
        Check.due("out among sleepers", x.time(false, 2), 0);
    }

    private static void groupsOverQuotaDoNotCount() {
        Check.sentence("gets the least time of the other ready members of its group");
        TaskTrees x = weighed(1000);
        x.set(1, 3, 2);
        x.sleep(0, false);
        x.ticks(2);
        Check.due("0 ran", x.ran(0), 1);
        x.fork(0, false, false);
        Check.due("the group may run once more", x.time(false, 2), 1000);
        x.sleep(2, true);
        x.ticks(1);
        x.fork(0, false, false);
        Check.due("the group may not", x.time(false, 3), 10000);
        x.sleep(3, true);
        x.ticks(16);
        x.fork(0, false, false);
        Check.due("nor behind the 19th tick", x.time(false, 4), 170000);
        x.sleep(4, true);
        x.ticks(1);
        x.fork(0, false, false);
        Check.due("behind the 20th it may", x.time(false, 5), 2000);
        x.fork(1, false, false);
        Check.due("its quota does not matter within it", x.time(false, 6), 20000);
    }

    private static void sleepAnswers() {
        Check.sentence("A live task sleeps, or wakes: 1; 0 if it did so already. NONE.");
        TaskTrees x = new TaskTrees();
        x.fork(0, true, false);
        x.fork(1, false, false);
        Check.due("a new one is awake", x.sleep(2, false), 0);
        Check.due("it sleeps", x.sleep(2, true), 1);
        Check.due("it did", x.sleep(2, true), 0);
        Check.due("it is asleep", x.task(2, 7), 1);
        Check.due("it wakes", x.sleep(2, false), 1);
        Check.due("it has", x.sleep(2, false), 0);
        Check.due("it is awake", x.task(2, 7), 0);
        Check.due("task 0 sleeps, too", x.sleep(0, true), 1);
        x.exit(2);
        Check.due("a zombie", x.sleep(2, true), NONE);
        x.reap(1);
        Check.due("gone", x.sleep(2, false), NONE);
        int[] never = {-1, 3, 150, LEAST, MOST};
        for (int t : never) {
            Check.due("sleep(" + t + ")", x.sleep(t, true), NONE);
            Check.due("wake(" + t + ")", x.sleep(t, false), NONE);
        }
    }

    private static void ranAnswers() {
        Check.sentence("How many ticks a task ran; -1 when there never was one.");
        TaskTrees x = new TaskTrees();
        x.fork(0, true, false);
        Check.due("none", x.ran(1), 0);
        x.ticks(2);
        Check.due("one", x.ran(1), 1);
        x.exit(1);
        Check.due("gone", x.ran(1), 1);
        int[] never = {-1, 2, 149, 150, LEAST, MOST};
        for (int t : never) {
            Check.due("ran(" + t + ")", x.ran(t), -1);
        }
        Check.due("task 0", x.ran(0), 1);
    }

    private static void timeAnswers() {
        Check.sentence("A task's time, a group's (-1 when there is none, never was).");
        TaskTrees x = weighed(50);
        x.ticks(1);
        Check.due("a task's", x.time(false, 1), 10000);
        Check.due("a group's", x.time(true, 1), 20000);
        Check.due("task 0's", x.time(false, 0), 0);
        int[] never = {-1, 2, 19, 20, 149, 150, LEAST, MOST};
        for (int n : never) {
            Check.due("task " + n, x.time(false, n), -1);
            Check.due("group " + n, x.time(true, n), -1);
        }
        x.exit(1);
        Check.due("a gone one's", x.time(false, 1), 10000);
        TaskTrees y = weighed(1);
        for (int i = 0; i < 11; i++) {
            y.ticks(200);
        }
        Check.due("more than an int holds", y.time(true, 1), 2200000000L);
    }

    private static void toldOfThePeriod() {
        Check.sentence("7 ticks in which it ran in this period");
        TaskTrees x = weighed(100, 100);
        x.group(1);
        x.move(1, 3);
        Check.due("none", x.told(1, 7), 0);
        x.ticks(5);
        int[] ran = {5, 3, 2, 3};
        for (int g = 0; g <= 3; g++) {
            Check.due("group " + g, x.told(g, 7), ran[g]);
        }
        x.ticks(14);
        int[] then = {19, 10, 9, 10};
        for (int g = 0; g <= 3; g++) {
            Check.due("behind the 19th, group " + g, x.told(g, 7), then[g]);
        }
        x.ticks(1);
        for (int g = 0; g <= 3; g++) {
            Check.due("behind the 20th, group " + g, x.told(g, 7), 0);
        }
        x.group(0);
        Check.due("a new one", x.told(4, 7), 0);
    }
}
