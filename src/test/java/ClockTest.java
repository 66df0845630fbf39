/** Promises 18 to 21: the clock. */
public final class ClockTest {
    public static void main(String[] args) {
        ticksChoose();
        ticksWeigh();
        ticksKeepQuotas();
        periodsBegin();
        ticksOfNobody();
        sleepAndWake();
        ranCounts();
        timeOfThoseThatCome();
        timeOfTheMoved();
        timeTells();
        Check.end();
    }

    private static void ticksChoose() {
        TaskTrees x = new TaskTrees();
        x.fork(0, false, false);
        x.group(0);
        x.group(0);
        x.fork(0, false, false);
        x.fork(0, false, false);
        x.move(2, 1);
        x.move(3, 2);
        Check.due("18: the lower task", x.ticks(1), 0);
        Check.due("18: a task before a group", x.ticks(1), 1);
        Check.due("18: the lower group", x.ticks(1), 2);
        Check.due("18: the other group", x.ticks(1), 3);
        Check.due("18: of the same time again", x.ticks(1), 0);
        Check.due("18: the last one of several", x.ticks(2), 2);
        Check.due("18: no tick", x.ticks(0), TaskTrees.NONE);
        Check.due("18: ticks so far", x.count(7), 7);
        Check.argument("18: below 0", () -> x.ticks(-1));
        Check.argument("18: 201", () -> x.ticks(201));
        Check.due("18: as it was", x.count(7), 7);
        Check.due("18: 200", x.ticks(200) >= 0 ? 1 : 0, 1);
        Check.due("18: ticks then", x.count(7), 207);
    }

    private static void ticksWeigh() {
        TaskTrees x = new TaskTrees();
        x.group(0);
        x.group(1);
        x.group(0);
        x.set(1, 2, 300);
        x.set(2, 2, 7);
        x.set(3, 2, 1000);
        x.fork(0, false, false);
        x.fork(0, false, false);
        x.move(1, 2);
        x.move(2, 3);
        x.sleep(0, true);
        Check.due("18: deep within", x.ticks(1), 1);
        Check.due("18: its time", x.time(false, 1), 10000);
        Check.due("18: its group's, cut", x.time(true, 2), 142857);
        Check.due("18: the one around, cut", x.time(true, 1), 3333);
        Check.due("18: then the other", x.ticks(1), 2);
        Check.due("18: its group's time", x.time(true, 3), 1000);
        Check.due("18: lighter steps, more ticks", x.ticks(3), 2);
        Check.due("18: until it is ahead", x.ticks(1), 1);
        x.set(0, 2, 1);
        x.set(0, 3, 1);
        Check.due("18: group 0's do not matter", x.ticks(2) >= 0 ? 1 : 0, 1);
        Check.due("18: group 0 has run", x.told(0, 7), 8);
        Check.due("18: group 0's time does not grow", x.time(true, 0), 0);
    }

    private static void ticksKeepQuotas() {
        TaskTrees x = new TaskTrees();
        x.group(0);
        x.group(1);
        x.fork(0, false, false);
        x.move(1, 2);
        x.sleep(0, true);
        x.set(2, 3, 4);
        Check.due("18: within the quota", x.ticks(4), 1);
        Check.due("18: beyond it", x.ticks(1), TaskTrees.NONE);
        Check.due("18: ran in this period", x.told(2, 7), 4);
        Check.due("18: the one around, too", x.told(1, 7), 4);
        x.set(2, 3, 5);
        Check.due("18: one more", x.ticks(1), 1);
        Check.due("18: no more", x.ticks(1), TaskTrees.NONE);
        x.set(1, 3, 2);
        x.set(2, 3, 0);
        Check.due("18: the one around has a quota", x.ticks(1), TaskTrees.NONE);
        x.sleep(0, false);
        Check.due("18: another is ready", x.ticks(1), 0);
    }

    private static void periodsBegin() {
        TaskTrees x = new TaskTrees();
        x.group(0);
        x.fork(0, false, false);
        x.move(1, 1);
        x.sleep(0, true);
        x.set(1, 3, 3);
        Check.due("18: 19 ticks", x.ticks(19), TaskTrees.NONE);
        Check.due("18: in this period", x.told(1, 7), 3);
        x.ticks(1);
        Check.due("18: behind the 20th", x.told(1, 7), 0);
        Check.due("18: group 0", x.told(0, 7), 0);
        Check.due("18: the next period", x.ticks(3), 1);
        Check.due("18: ran", x.ran(1), 6);
        x.ticks(200);
        Check.due("18: three in each of them", x.ran(1), 36);
    }

    private static void ticksOfNobody() {
        TaskTrees x = new TaskTrees();
        x.fork(0, false, false);
        x.sleep(0, true);
        x.ticks(5);
        x.exit(1);
        Check.due("18: nobody is ready", x.ticks(7), TaskTrees.NONE);
        Check.due("18: but they are ticks", x.count(7), 12);
        Check.due("18: the dead keep their time", x.time(false, 1), 50000);
        Check.due("18: group 0 ran", x.told(0, 7), 5);
    }

    private static void sleepAndWake() {
        TaskTrees x = new TaskTrees();
        x.fork(0, false, false);
        Check.due("19: awake already", x.sleep(1, false), 0);
        Check.due("19: sleeps", x.sleep(1, true), 1);
        Check.due("19: is asleep", x.task(1, 7), 1);
        Check.due("19: asleep already", x.sleep(1, true), 0);
        x.ticks(4);
        Check.due("19: did not run", x.ran(1), 0);
        Check.due("19: its time stands", x.time(false, 1), 0);
        Check.due("19: wakes", x.sleep(1, false), 1);
        Check.due("19: the least time of the others", x.time(false, 1), 40000);
        Check.due("19: the lower number", x.ticks(1), 0);
        Check.due("19: then it", x.ticks(1), 1);
        x.sleep(1, true);
        x.fork(0, false, false);
        x.ticks(1);
        x.sleep(1, false);
        Check.due("19: its own is not less", x.time(false, 1), 50000);
        Check.due("19: no task", x.sleep(3, true), TaskTrees.NONE);
        Check.due("19: below 0", x.sleep(-1, false), TaskTrees.NONE);
        x.exit(1);
        Check.due("19: not live", x.sleep(1, true), TaskTrees.NONE);

        TaskTrees y = new TaskTrees();
        y.ticks(2);
        y.sleep(0, true);
        y.sleep(0, false);
        Check.due("19: no others, its own stays", y.time(false, 0), 20000);
    }

    private static void ranCounts() {
        TaskTrees x = new TaskTrees();
        x.fork(0, false, false);
        x.ticks(7);
        Check.due("20: ran(0)", x.ran(0), 4);
        Check.due("20: ran(1)", x.ran(1), 3);
        x.exit(1);
        Check.due("20: gone", x.ran(1), 3);
        Check.due("20: never was", x.ran(2), -1);
        Check.due("20: below 0", x.ran(-1), -1);
        Check.due("20: far", x.ran(Integer.MAX_VALUE), -1);
    }

    private static void timeOfThoseThatCome() {
        TaskTrees x = new TaskTrees();
        x.group(0);
        x.ticks(5);
        x.fork(0, false, false);
        Check.due("21: a new task", x.time(false, 1), 50000);
        x.sleep(0, true);
        x.sleep(1, true);
        x.fork(0, false, false);
        Check.due("21: none ready", x.time(false, 2), 0);
        x.sleep(2, true);
        x.sleep(0, false);
        x.ticks(1);
        x.fork(0, false, false);
        Check.due("21: of the ready ones", x.time(false, 3), 60000);
        x.move(3, 1);
        x.fork(0, false, false);
        Check.due("21: a ready group counts", x.time(false, 4), 0);
        x.sleep(4, true);
        x.set(1, 3, 1);
        x.ticks(1);
        Check.due("21: the group ran", x.time(true, 1), 10000);
        x.fork(0, false, false);
        Check.due("21: not beyond its quota", x.time(false, 5), 60000);
    }

    private static void timeOfTheMoved() {
        TaskTrees x = new TaskTrees();
        x.group(0);
        x.group(0);
        x.fork(0, false, false);
        x.ticks(6);
        x.move(1, 1);
        Check.due("21: moved to where none is ready", x.time(false, 1), 0);
        x.ticks(2);
        long least = x.time(false, 1);
        x.fork(0, false, false);
        x.fork(0, false, false);
        x.move(2, 1);
        Check.due("21: moved", x.time(false, 2), least);
        x.sleep(3, true);
        x.move(3, 1);
        Check.due("21: moved asleep", x.time(false, 3), least);
        x.sleep(0, true);
        x.move(3, 2);
        x.move(2, 2);
        x.move(1, 0);
        Check.due("21: the group that it left is not ready", x.time(false, 1), 0);
        Check.due("21: that one's time", x.time(true, 1) > 0 ? 1 : 0, 1);
    }

    private static void timeTells() {
        TaskTrees x = new TaskTrees();
        x.group(0);
        x.fork(0, false, false);
        x.move(1, 1);
        x.sleep(0, true);
        x.ticks(10);
        Check.due("21: a task's", x.time(false, 1), 100000);
        Check.due("21: a group's", x.time(true, 1), 100000);
        x.exit(1);
        Check.due("21: a gone task's", x.time(false, 1), 100000);
        Check.due("21: no task", x.time(false, 2), -1);
        Check.due("21: no group", x.time(true, 2), -1);
        Check.due("21: task below 0", x.time(false, -1), -1);
        Check.due("21: group below 0", x.time(true, -1), -1);

        TaskTrees y = new TaskTrees();
        y.group(0);
        y.set(1, 2, 1);
        y.fork(0, false, false);
        y.move(1, 1);
        y.sleep(0, true);
        for (int i = 0; i < 20; i++) {
            y.ticks(200);
        }
        Check.due("21: a long", y.time(true, 1), 4000000000L);
    }
}
