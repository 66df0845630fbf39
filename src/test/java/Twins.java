import java.util.ArrayList;
import java.util.List;

/**
 * Two objects with the same past, one with a call more that is refused or throws: whatever is asked
 * of them then, and whatever is done to them, they must answer the same.
 */
final class Twins {
    interface Past {
        void on(TaskTrees x);
    }

    interface Call {
        long on(TaskTrees x);
    }

    static final long INDEX = Long.MIN_VALUE, ARGUMENT = Long.MIN_VALUE + 1;
    private static final long OTHER = Long.MIN_VALUE + 2;

    /** So many questions to one pair: with a past of some 300 calls it stays below 512. */
    private static final int AT_ONCE = 150;

    private final Past past;
    private final List<Call> questions = new ArrayList<>();

    Twins(Past past) {
        this.past = past;
        askAll(made());
    }

    private TaskTrees made() {
        TaskTrees x = new TaskTrees();
        past.on(x);
        return x;
    }

    static long answer(Call call, TaskTrees x) {
        try {
            return call.on(x);
        } catch (RuntimeException e) {
            return e.getClass() == IndexOutOfBoundsException.class ? INDEX
                    : e.getClass() == IllegalArgumentException.class ? ARGUMENT : OTHER;
        }
    }

    /** The call must answer what is due, and leave no trace. */
    void changesNothing(String label, Call call, long due) {
        for (int from = 0; from < questions.size(); from += AT_ONCE) {
            int to = Math.min(questions.size(), from + AT_ONCE);
            compare(label, call, due, questions.subList(from, to));
        }
        for (List<Call> deeds : deeds()) {
            compare(label, call, due, deeds);
        }
    }

    private void compare(String label, Call call, long due, List<Call> then) {
        TaskTrees plain = made();
        TaskTrees tried = made();
        Check.due(label, answer(call, tried), due);
        for (int i = 0; i < then.size(); i++) {
            Check.due(label + ", then call " + i, answer(then.get(i), tried),
                    answer(then.get(i), plain));
        }
    }

    private void askAll(TaskTrees x) {
        for (int what = 0; what <= 8; what++) {
            int w = what;
            questions.add(y -> y.count(w));
        }
        askTasks(x.count(0), x.count(3));
        askGroups(x.count(4));
        askMounts(x.count(0));
    }

    private void askTasks(int tasks, int spaces) {
        for (int task = 0; task <= tasks; task++) {
            int t = task;
            questions.add(y -> y.ran(t));
            questions.add(y -> y.time(false, t));
            for (int what = 0; what <= 7; what++) {
                int w = what;
                questions.add(y -> y.task(t, w));
            }
            for (int space = 0; space <= spaces; space++) {
                int s = space;
                questions.add(y -> y.number(t, s));
            }
        }
        for (int space = 0; space <= spaces; space++) {
            for (int number = 1; number <= 40; number++) {
                int s = space;
                int n = number;
                questions.add(y -> y.find(s, n));
            }
        }
    }

    private void askGroups(int groups) {
        for (int group = 0; group <= groups; group++) {
            int g = group;
            questions.add(y -> y.time(true, g));
            for (int what = 0; what <= 8; what++) {
                int w = what;
                questions.add(y -> y.told(g, w));
            }
        }
    }

    private void askMounts(int tasks) {
        for (int mount = 0; mount < 80; mount++) {
            for (int what = 0; what <= 4; what++) {
                int m = mount;
                int w = what;
                questions.add(y -> y.mounted(m, w));
            }
        }
        for (int task = 0; task < Math.min(tasks, 10); task++) {
            for (int path = 1; path <= 15; path++) {
                int t = task;
                int p = path;
                questions.add(y -> y.at(t, p));
            }
        }
    }

    /** What would show the rest: the numbers given last, peer numbers, the period, who is next. */
    private static List<List<Call>> deeds() {
        return List.of(
                List.of(y -> y.fork(0, false, false), y -> y.find(0, 2), y -> y.find(0, 3),
                        y -> y.find(0, y.count(0)), y -> y.time(false, y.count(0) - 1),
                        y -> y.number(y.count(0) - 1, 0)),
                List.of(y -> y.fork(1, true, true), y -> y.number(y.count(0) - 1, 0),
                        y -> y.task(y.count(0) - 1, 2), y -> y.task(y.count(0) - 1, 4),
                        y -> y.number(y.count(0) - 1, y.count(3) - 1), y -> y.count(6)),
                List.of(y -> y.fork(1, false, false), y -> y.number(y.count(0) - 1, 0),
                        y -> y.number(y.count(0) - 1, y.task(1, 2))),
                List.of(y -> y.mount(0, 14, 5, true), y -> y.at(0, 14),
                        y -> y.mounted(y.at(0, 14) / 1000, 4), y -> y.count(6)),
                List.of(y -> y.share(0, true), y -> y.share(0, true), y -> y.share(0, false)),
                List.of(y -> y.group(0), y -> y.time(true, y.count(4) - 1),
                        y -> y.told(y.count(4) - 1, 8)),
                List.of(y -> y.exit(1), y -> y.count(1), y -> y.count(2), y -> y.told(0, 0),
                        y -> y.reap(0)),
                List.of(y -> y.reap(1), y -> y.kill(1, 2), y -> y.count(1), y -> y.count(2)),
                List.of(y -> y.charge(1, 900), y -> y.count(8), y -> y.told(0, 0),
                        y -> y.told(1, 0), y -> y.count(1)),
                List.of(y -> y.unmount(0, 2), y -> y.unmount(1, 2), y -> y.unmount(1, 4),
                        y -> y.count(6)),
                ticking());
    }

    private static List<Call> ticking() {
        List<Call> calls = new ArrayList<>();
        for (int i = 0; i < 45; i++) {
            calls.add(y -> y.ticks(1));
            calls.add(y -> y.told(1, 7));
        }
        return calls;
    }
}
