/**
 * A kernel's trees: tasks in spaces, groups with pages, a clock, and views of mounts.
 * The document ../shared/DOC.md says what each call answers.
 */
public final class TaskTrees {
    public static final int NONE = -1, FULL = -2, LIMIT = -3, BUSY = -4, KILLED = -5;

    private static final int LIVE = 0, ZOMBIE = 1, GONE = 2;

    private static final int TASKS = 150;
    private static final int SPACES = 20;
    private static final int SPACES_AROUND = 4;
    private static final int NUMBERS = 40;

    private static final int GROUPS = 20;
    private static final int GROUPS_AROUND = 5;
    private static final int PAGES = 1000000;
    private static final int WORST = 10;
    private static final int POINT = 100;

    /** What a group may be set to, by the what of the call: max, most, weight, quota. */
    private static final int[] SET_LEAST = {0, 0, 1, 0};
    private static final int[] SET_MOST = {1000000, 150, 1000, 20};

    private static final int PERIOD = 20;
    private static final int TICKS_A_CALL = 200;
    private static final int TASK_STEP = 10000;
    private static final int GROUP_STEP = 1000000;

    private static final int VIEWS = 10;
    private static final int MOUNTS = 80;
    private static final int VOLUMES = 10;
    private static final int DIRECTORIES = 15;
    private static final int FIRST_LEAF = 7;

    private final GroupTable groups;
    private final TaskTable tasks;
    private final Memory memory;
    private final Clock clock;
    private final MountTable mounts;

    public TaskTrees() {
        groups = new GroupTable();
        tasks = new TaskTable();
        memory = new Memory(tasks, groups);
        clock = new Clock(tasks, groups);
        mounts = new MountTable();
        tasks.bear(null, tasks.openSpace(null), groups.open(null), mounts.openView());
    }

    // ---- tasks

    public int fork(int task, boolean space, boolean view) {
        Task parent = tasks.living(task);
        if (parent == null) {
            return NONE;
        }
        if (!parent.group.takesTask()) {
            return LIMIT;
        }
        if (!tasks.hasRoom(parent.space, space) || (view && !mounts.canCopy(parent.view))) {
            return FULL;
        }
        Space home = space ? tasks.openSpace(parent.space) : parent.space;
        View seen = view ? mounts.copyView(parent.view) : parent.view;
        Task child = tasks.bear(parent, home, parent.group, seen);
        clock.admit(child, false);
        return child.id;
    }

    public int exit(int task) {
        Task t = tasks.living(task);
        return t == null || t.id == 0 ? NONE : tasks.end(t);
    }

    public int reap(int task) {
        Task t = tasks.living(task);
        return t == null ? NONE : tasks.bury(t);
    }

    public int kill(int task, int number) {
        Task sender = tasks.living(task);
        if (sender == null) {
            return NONE;
        }
        Task target = sender.space.holder(number);
        if (target == null) {
            return NONE;
        }
        boolean spared = target == sender.space.init || target.id == 0;
        return spared || target.state != LIVE ? 0 : tasks.end(target);
    }

    public int number(int task, int space) throws IndexOutOfBoundsException {
        Space s = tasks.spaceAt(space);
        if (s == null) {
            throw new IndexOutOfBoundsException("no such space");
        }
        Task t = tasks.everMade(task);
        return t == null ? NONE : s.numberOf(t);
    }

    public int find(int space, int number) throws IndexOutOfBoundsException {
        Space s = tasks.spaceAt(space);
        if (s == null) {
            throw new IndexOutOfBoundsException("no such space");
        }
        Task t = s.holder(number);
        return t == null ? NONE : t.id;
    }

    public int task(int task, int what) throws IndexOutOfBoundsException {
        if (what < 0 || what > 7) {
            throw new IndexOutOfBoundsException("what is 0 to 7");
        }
        Task t = tasks.everMade(task);
        return t == null ? NONE : t.tell(what);
    }

    public int count(int what) throws IndexOutOfBoundsException {
        switch (what) {
            case 0: return tasks.made;
            case 1: return tasks.inState(LIVE);
            case 2: return tasks.inState(ZOMBIE);
            case 3: return tasks.spacesMade;
            case 4: return groups.made;
            case 5: return mounts.viewsMade;
            case 6: return mounts.there;
            case 7: return clock.now;
            case 8: return memory.victims;
            default: throw new IndexOutOfBoundsException("what is 0 to 8");
        }
    }

    // ---- groups

    public int group(int within) {
        Group outer = groups.madeAt(within);
        if (outer == null) {
            return NONE;
        }
        if (!groups.hasRoom(outer)) {
            return FULL;
        }
        Group g = groups.open(outer);
        clock.admitGroup(g);
        return g.id;
    }

    public int set(int group, int what, int v)
            throws IndexOutOfBoundsException, IllegalArgumentException {
        if (what < 0 || what > 3) {
            throw new IndexOutOfBoundsException("what is 0 to 3");
        }
        if (v < SET_LEAST[what] || v > SET_MOST[what]) {
            throw new IllegalArgumentException("no such max, most, weight or quota");
        }
        Group g = groups.madeAt(group);
        if (g == null) {
            return NONE;
        }
        return g.holdsMoreThan(what, v) ? LIMIT : g.change(what, v);
    }

    public int told(int group, int what) throws IndexOutOfBoundsException {
        if (what < 0 || what > 8) {
            throw new IndexOutOfBoundsException("what is 0 to 8");
        }
        Group g = groups.madeAt(group);
        return g == null ? NONE : g.tell(what);
    }

    public int charge(int task, int n) throws IllegalArgumentException {
        if (n < 0 || n > PAGES) {
            throw new IllegalArgumentException("pages are 0 to 1000000");
        }
        Task t = tasks.living(task);
        if (t == null) {
            return NONE;
        }
        int refusal = memory.makeRoom(t, n);
        if (refusal < 0) {
            return refusal;
        }
        t.hold(n);
        return t.pages;
    }

    public int release(int task, int n) throws IllegalArgumentException {
        if (n < 0) {
            throw new IllegalArgumentException("pages are 0 or more");
        }
        Task t = tasks.living(task);
        if (t == null) {
            return NONE;
        }
        if (n > t.pages) {
            return LIMIT;
        }
        t.hold(-n);
        return t.pages;
    }

    public int cache(int task, int n) throws IllegalArgumentException {
        if (n < 0 || n > PAGES) {
            throw new IllegalArgumentException("pages are 0 to 1000000");
        }
        Task t = tasks.living(task);
        if (t == null) {
            return NONE;
        }
        int refusal = memory.makeRoom(t, n);
        if (refusal < 0) {
            return refusal;
        }
        t.group.keepCached(n);
        return t.group.cached;
    }

    public int move(int task, int group) {
        Task t = tasks.living(task);
        Group to = groups.madeAt(group);
        if (t == null || to == null) {
            return NONE;
        }
        if (t.group == to) {
            return 0;
        }
        if (!to.takesFrom(t)) {
            return LIMIT;
        }
        t.changeGroup(to);
        clock.admit(t, true);
        return 1;
    }

    public int badness(int task, int v) throws IllegalArgumentException {
        if (v < -WORST || v > WORST) {
            throw new IllegalArgumentException("badness is -10 to 10");
        }
        Task t = tasks.living(task);
        if (t == null) {
            return NONE;
        }
        t.points = v;
        return 1;
    }

    // ---- the clock

    public int ticks(int n) throws IllegalArgumentException {
        if (n < 0 || n > TICKS_A_CALL) {
            throw new IllegalArgumentException("ticks are 0 to 200");
        }
        Task last = null;
        for (int i = 0; i < n; i++) {
            last = clock.tick();
        }
        return last == null ? NONE : last.id;
    }

    public int sleep(int task, boolean is) {
        Task t = tasks.living(task);
        if (t == null) {
            return NONE;
        }
        if (t.asleep == is) {
            return 0;
        }
        t.asleep = is;
        if (!is) {
            clock.admit(t, false);
        }
        return 1;
    }

    public int ran(int task) {
        Task t = tasks.everMade(task);
        return t == null ? NONE : t.ticksRun;
    }

    public long time(boolean group, int number) {
        if (group) {
            Group g = groups.madeAt(number);
            return g == null ? NONE : g.clockTime;
        }
        Task t = tasks.everMade(number);
        return t == null ? NONE : t.clockTime;
    }

    // ---- mounts

    public int mount(int task, int path, int volume, boolean shared)
            throws IllegalArgumentException {
        if (volume < 0 || volume >= VOLUMES) {
            throw new IllegalArgumentException("volumes are 0 to 9");
        }
        Task t = tasks.living(task);
        Place place = mounts.place;
        if (t == null || !place.reach(t.view, path)) {
            return NONE;
        }
        return mounts.add(place.mount, place.directory, volume, shared);
    }

    public int unmount(int task, int path) {
        Task t = tasks.living(task);
        Place place = mounts.place;
        if (t == null || !place.reach(t.view, path)) {
            return NONE;
        }
        return place.directory == 0 ? mounts.remove(place.mount) : NONE;
    }

    public int at(int task, int path) {
        Task t = tasks.living(task);
        Place place = mounts.place;
        return t == null || !place.reach(t.view, path) ? NONE : place.code();
    }

    public int share(int view, boolean shared) throws IndexOutOfBoundsException {
        View v = mounts.viewAt(view);
        if (v == null) {
            throw new IndexOutOfBoundsException("no such view");
        }
        return mounts.changePeer(v.root, shared);
    }

    public int mounted(int mount, int what) throws IndexOutOfBoundsException {
        if (what < 0 || what > 4) {
            throw new IndexOutOfBoundsException("what is 0 to 4");
        }
        Mount m = mounts.mountAt(mount);
        return m == null ? NONE : m.tell(what);
    }

    /** One task; it stays in its table when it is gone. */
    private static final class Task {
        final int id;
        final Space space;
        final View view;
        Task parent;
        Group group;
        int state;
        int pages;
        int points;
        int ticksRun;
        boolean asleep;
        long clockTime;

        Task(int id, Task parent, Space space, Group group, View view) {
            this.id = id;
            this.parent = parent;
            this.space = space;
            this.group = group;
            this.view = view;
        }

        boolean isReady() {
            return state == LIVE && !asleep;
        }

        boolean mayBeKilled() {
            return state == LIVE && id != 0 && points > -WORST;
        }

        int score() {
            return pages + POINT * points;
        }

        boolean isLostZombie() {
            return state == ZOMBIE && (parent == null || parent.state != LIVE || parent.id == 0);
        }

        /** The one that gets the children when this one ends. */
        Task heir() {
            if (space.init != this) {
                return space.init;
            }
            return space.outer == null ? null : space.outer.init;
        }

        void hold(int more) {
            pages += more;
            group.addUse(more);
        }

        void changeGroup(Group to) {
            group.addUse(-pages);
            group.addLive(-1);
            group = to;
            group.addUse(pages);
            group.addLive(1);
        }

        void vanish() {
            state = GONE;
            parent = null;
            for (Space s = space; s != null; s = s.outer) {
                s.drop(this);
            }
        }

        int tell(int what) {
            switch (what) {
                case 0: return state;
                case 1: return parent == null ? NONE : parent.id;
                case 2: return space.id;
                case 3: return group.id;
                case 4: return view.id;
                case 5: return pages;
                case 6: return points;
                default: return asleep ? 1 : 0;
            }
        }
    }

    /** One space, with the tasks that have its numbers. */
    private static final class Space {
        final int id;
        final Space outer;
        final int depth;
        final Task[] holders = new Task[NUMBERS + 1];
        Task init;
        int lastGiven;

        Space(int id, Space outer) {
            this.id = id;
            this.outer = outer;
            this.depth = outer == null ? 0 : outer.depth + 1;
        }

        boolean liesIn(Space other) {
            for (Space s = this; s != null; s = s.outer) {
                if (s == other) {
                    return true;
                }
            }
            return false;
        }

        /** The number that a new task would get; 0 when all are held. */
        int nextNumber() {
            int n = lastGiven;
            for (int i = 0; i < NUMBERS; i++) {
                n = n < NUMBERS ? n + 1 : 1;
                if (holders[n] == null) {
                    return n;
                }
            }
            return 0;
        }

        void take(Task t) {
            int n = nextNumber();
            if (n == 0) {
                return;
            }
            holders[n] = t;
            lastGiven = n;
            if (init == null) {
                init = t;
            }
        }

        void drop(Task t) {
            for (int n = 1; n <= NUMBERS; n++) {
                if (holders[n] == t) {
                    holders[n] = null;
                }
            }
        }

        Task holder(int n) {
            return n < 1 || n > NUMBERS ? null : holders[n];
        }

        int numberOf(Task t) {
            for (int n = 1; n <= NUMBERS; n++) {
                if (holders[n] == t) {
                    return n;
                }
            }
            return 0;
        }
    }

    /** All tasks and spaces: how tasks come, end and vanish. */
    private static final class TaskTable {
        final Task[] rows = new Task[TASKS];
        final Space[] spaces = new Space[SPACES];
        int made;
        int spacesMade;

        Task everMade(int n) {
            return n < 0 || n >= made || n >= TASKS ? null : rows[n];
        }

        Task living(int n) {
            Task t = everMade(n);
            return t == null || t.state != LIVE ? null : t;
        }

        Space spaceAt(int n) {
            return n < 0 || n >= spacesMade || n >= SPACES ? null : spaces[n];
        }

        int inState(int state) {
            int found = 0;
            for (int i = 0; i < made; i++) {
                if (rows[i].state == state) {
                    found++;
                }
            }
            return found;
        }

        /** Whether a task can come into a space, or into a new one within it. */
        boolean hasRoom(Space space, boolean within) {
            if (made >= TASKS) {
                return false;
            }
            if (within && (spacesMade >= SPACES || space.depth >= SPACES_AROUND)) {
                return false;
            }
            for (Space s = space; s != null; s = s.outer) {
                if (s.nextNumber() == 0) {
                    return false;
                }
            }
            return true;
        }

        /** The caller has asked hasRoom. */
        Space openSpace(Space outer) {
            Space s = new Space(spacesMade, outer);
            if (spacesMade < SPACES) {
                spaces[spacesMade] = s;
                spacesMade++;
            }
            return s;
        }

        /** The caller has asked hasRoom. */
        Task bear(Task parent, Space space, Group group, View view) {
            Task t = new Task(made, parent, space, group, view);
            if (made < TASKS) {
                rows[made] = t;
                made++;
            }
            for (Space s = space; s != null; s = s.outer) {
                s.take(t);
            }
            group.addLive(1);
            return t;
        }

        /** EXIT: how many tasks are live no more. */
        int end(Task t) {
            retire(t);
            int ended = 1;
            if (t.space.init == t) {
                ended += emptySpace(t);
            }
            dropLostZombies();
            return ended;
        }

        private void retire(Task t) {
            Task heir = t.heir();
            t.state = ZOMBIE;
            t.group.addUse(-t.pages);
            t.group.addLive(-1);
            t.pages = 0;
            for (int i = 0; i < made; i++) {
                if (rows[i].parent == t) {
                    rows[i].parent = heir;
                }
            }
        }

        /**
         * What ends with an INIT. A dead space needs no mark: it has no live task that could
         * bring another into it.
         */
        private int emptySpace(Task init) {
            int ended = 0;
            for (int i = 0; i < made; i++) {
                Task t = rows[i];
                if (t == init || t.state == GONE || !t.space.liesIn(init.space)) {
                    continue;
                }
                if (t.state == LIVE) {
                    retire(t);
                    ended++;
                }
                t.vanish();
            }
            return ended;
        }

        private void dropLostZombies() {
            for (int i = 0; i < made; i++) {
                if (rows[i].isLostZombie()) {
                    rows[i].vanish();
                }
            }
        }

        /** REAP: the number in the parent's space, or 0. */
        int bury(Task parent) {
            for (int n = 1; n <= NUMBERS; n++) {
                Task t = parent.space.holder(n);
                if (t != null && t.state == ZOMBIE && t.parent == parent) {
                    t.vanish();
                    return n;
                }
            }
            return 0;
        }

        /** The next victim of a group; null when none may be killed. */
        Task victimIn(Group g) {
            Task worst = null;
            for (int i = 0; i < made; i++) {
                Task t = rows[i];
                if (t.mayBeKilled() && t.group.liesIn(g)
                        && (worst == null || t.score() >= worst.score())) {
                    worst = t;
                }
            }
            return worst;
        }
    }

    /** One group; uses and live hold for the groups within it, too. */
    private static final class Group {
        final int id;
        final Group outer;
        final int depth;
        int max = PAGES;
        int most = TASKS;
        int weight = 100;
        int quota;
        int uses;
        int live;
        int cached;
        int ranInPeriod;
        long clockTime;
        /** The clock's choice among the ready members, as its last look found it. */
        Task firstTask;
        Group firstGroup;

        Group(int id, Group outer) {
            this.id = id;
            this.outer = outer;
            this.depth = outer == null ? 0 : outer.depth + 1;
        }

        boolean liesIn(Group other) {
            for (Group g = this; g != null; g = g.outer) {
                if (g == other) {
                    return true;
                }
            }
            return false;
        }

        void addUse(int n) {
            for (Group g = this; g != null; g = g.outer) {
                g.uses += n;
            }
        }

        void addLive(int n) {
            for (Group g = this; g != null; g = g.outer) {
                g.live += n;
            }
        }

        void keepCached(int more) {
            cached += more;
            addUse(more);
        }

        int lacking(int n) {
            return uses + n - max;
        }

        boolean takesTask() {
            for (Group g = this; g != null; g = g.outer) {
                if (g.live >= g.most) {
                    return false;
                }
            }
            return true;
        }

        /** Groups that the task is in already count it and its pages, so they are not asked. */
        boolean takesFrom(Task t) {
            for (Group g = this; g != null; g = g.outer) {
                if (!t.group.liesIn(g) && (g.live >= g.most || g.lacking(t.pages) > 0)) {
                    return false;
                }
            }
            return true;
        }

        boolean holdsMoreThan(int what, int v) {
            return (what == 0 && uses > v) || (what == 1 && live > v);
        }

        int change(int what, int v) {
            int was = tell(what + 3);
            switch (what) {
                case 0: max = v; break;
                case 1: most = v; break;
                case 2: weight = v; break;
                default: quota = v; break;
            }
            return was;
        }

        boolean isReady() {
            boolean hasReady = firstTask != null || firstGroup != null;
            return hasReady && (quota == 0 || ranInPeriod < quota);
        }

        /** Whether the walk from the outermost group goes on into firstGroup. */
        boolean leadsToGroup() {
            return firstGroup != null
                    && (firstTask == null || firstGroup.clockTime < firstTask.clockTime);
        }

        /** The least time of its ready members; -1 when there are none. */
        long leastTime() {
            if (leadsToGroup()) {
                return firstGroup.clockTime;
            }
            return firstTask == null ? -1 : firstTask.clockTime;
        }

        int tell(int what) {
            switch (what) {
                case 0: return uses;
                case 1: return live;
                case 2: return cached;
                case 3: return max;
                case 4: return most;
                case 5: return weight;
                case 6: return quota;
                case 7: return ranInPeriod;
                default: return outer == null ? NONE : outer.id;
            }
        }
    }

    /** All groups; one within another always has the higher number. */
    private static final class GroupTable {
        final Group[] rows = new Group[GROUPS];
        int made;

        Group madeAt(int n) {
            return n < 0 || n >= made || n >= GROUPS ? null : rows[n];
        }

        boolean hasRoom(Group outer) {
            return made < GROUPS && outer.depth < GROUPS_AROUND;
        }

        /** The caller has asked hasRoom. */
        Group open(Group outer) {
            Group g = new Group(made, outer);
            if (made < GROUPS) {
                rows[made] = g;
                made++;
            }
            return g;
        }

        /** The group in one, or that one itself, with the most cache; null when there is none. */
        Group richestIn(Group outer) {
            Group richest = null;
            for (int i = 0; i < made; i++) {
                Group g = rows[i];
                if (g.cached > (richest == null ? 0 : richest.cached) && g.liesIn(outer)) {
                    richest = g;
                }
            }
            return richest;
        }
    }

    /** How room is made for a charge. */
    private static final class Memory {
        private final TaskTable tasks;
        private final GroupTable groups;
        int victims;

        Memory(TaskTable tasks, GroupTable groups) {
            this.tasks = tasks;
            this.groups = groups;
        }

        /** 0 when all groups around a task have room for n pages; or the refusal. */
        int makeRoom(Task payer, int n) {
            for (Group g = payer.group; g != null; g = g.outer) {
                takeCaches(g, n);
                int refusal = killVictims(g, payer, n);
                if (refusal < 0) {
                    return refusal;
                }
            }
            return 0;
        }

        private void takeCaches(Group g, int n) {
            for (int i = 0; i < GROUPS && g.lacking(n) > 0; i++) {
                Group richest = groups.richestIn(g);
                if (richest == null) {
                    return;
                }
                richest.keepCached(-Math.min(richest.cached, g.lacking(n)));
            }
        }

        private int killVictims(Group g, Task payer, int n) {
            for (int i = 0; i < TASKS && g.lacking(n) > 0; i++) {
                Task victim = tasks.victimIn(g);
                if (victim == null) {
                    return LIMIT;
                }
                victims++;
                tasks.end(victim);
                if (payer.state != LIVE) {
                    return KILLED;
                }
            }
            return 0;
        }
    }

    /** The ticks, and the times of those that come. */
    private static final class Clock {
        private final TaskTable tasks;
        private final GroupTable groups;
        int now;

        Clock(TaskTable tasks, GroupTable groups) {
            this.tasks = tasks;
            this.groups = groups;
        }

        /** One tick: the task that ran, or null. */
        Task tick() {
            look(null);
            Task chosen = choose();
            if (chosen != null) {
                run(chosen);
            }
            now++;
            if (now % PERIOD == 0) {
                beginPeriod();
            }
            return chosen;
        }

        /** Gives a task that comes into its group, or wakes there, its time. */
        void admit(Task t, boolean moved) {
            look(t);
            long least = t.group.leastTime();
            if (moved) {
                t.clockTime = Math.max(least, 0);
            } else {
                t.clockTime = Math.max(least, t.clockTime);
            }
        }

        /** A new group has no ready member, so the look does not find it among the others. */
        void admitGroup(Group g) {
            look(null);
            if (g.outer != null) {
                g.clockTime = Math.max(g.outer.leastTime(), g.clockTime);
            }
        }

        /** Finds each group's first ready task and first ready group, one task left out. */
        private void look(Task leftOut) {
            for (int i = 0; i < groups.made; i++) {
                groups.rows[i].firstTask = null;
                groups.rows[i].firstGroup = null;
            }
            for (int i = 0; i < tasks.made; i++) {
                Task t = tasks.rows[i];
                if (t != leftOut && t.isReady()) {
                    offerTask(t);
                }
            }
            // From the last on: what is within a group is known before the group itself is asked.
            for (int i = groups.made - 1; i > 0; i--) {
                if (groups.rows[i].isReady()) {
                    offerGroup(groups.rows[i]);
                }
            }
        }

        private void offerTask(Task t) {
            Task first = t.group.firstTask;
            if (first == null || t.clockTime < first.clockTime) {
                t.group.firstTask = t;
            }
        }

        /** Groups are offered from the last on, so of the same time the later offer wins. */
        private void offerGroup(Group g) {
            if (g.outer == null) {
                return;
            }
            Group first = g.outer.firstGroup;
            if (first == null || g.clockTime <= first.clockTime) {
                g.outer.firstGroup = g;
            }
        }

        /** Each step goes into a group within the last one, so the walk ends. */
        private Task choose() {
            Task chosen = null;
            Group g = groups.madeAt(0);
            while (g != null) {
                chosen = g.firstTask;
                g = g.leadsToGroup() ? g.firstGroup : null;
            }
            return chosen;
        }

        private void run(Task t) {
            t.ticksRun++;
            t.clockTime += TASK_STEP;
            for (Group g = t.group; g != null; g = g.outer) {
                g.ranInPeriod++;
                if (g.outer != null && g.weight > 0) {
                    g.clockTime += GROUP_STEP / g.weight;
                }
            }
        }

        private void beginPeriod() {
            for (int i = 0; i < groups.made; i++) {
                groups.rows[i].ranInPeriod = 0;
            }
        }
    }

    /** One view; its root is set as soon as it is made. */
    private static final class View {
        final int id;
        Mount root;

        View(int id) {
            this.id = id;
        }
    }

    /** One row for a mount; it is free while it has no view. */
    private static final class Mount {
        final int id;
        private final Mount[] tops = new Mount[DIRECTORIES];
        View view;
        Mount under;
        int directory;
        int carried;
        int volume;
        int peer;
        /** Its copy in the view that was made last from its own. */
        Mount twin;

        Mount(int id) {
            this.id = id;
        }

        void begin(View view, int volume, int peer) {
            this.view = view;
            this.volume = volume;
            this.peer = peer;
        }

        /** What is in the place of a directory, or null. */
        Mount over(int d) {
            return d < 0 || d >= DIRECTORIES ? null : tops[d];
        }

        private void cover(int d, Mount top) {
            if (d >= 0 && d < DIRECTORIES) {
                tops[d] = top;
                carried += top == null ? -1 : 1;
            }
        }

        void putOn(Mount under, int directory) {
            this.under = under;
            this.directory = directory;
            under.cover(directory, this);
        }

        /** The row is free then; begin and putOn set all of it anew. */
        void takeOff() {
            if (under != null) {
                under.cover(directory, null);
            }
            under = null;
            directory = 0;
            view = null;
        }

        int tell(int what) {
            switch (what) {
                case 0: return view == null ? NONE : view.id;
                case 1: return under == null ? NONE : under.id;
                case 2: return directory;
                case 3: return volume;
                default: return peer;
            }
        }
    }

    /** Where a path leads; one is used again for all calls. */
    private static final class Place {
        Mount mount;
        int directory;

        /** Whether a path leads anywhere in a view; then this is the place. */
        boolean reach(View view, int path) {
            if (path < 1) {
                return false;
            }
            enter(view.root, 0);
            for (int bit = highestBit(path) - 1; bit >= 0; bit--) {
                if (directory >= FIRST_LEAF) {
                    return false;
                }
                enter(mount, 2 * directory + 1 + ((path >> bit) & 1));
            }
            return true;
        }

        private static int highestBit(int path) {
            int bit = 30;
            while (bit > 0 && (path >> bit) == 0) {
                bit--;
            }
            return bit;
        }

        private void enter(Mount m, int d) {
            mount = m;
            directory = d;
            for (Mount top = m.over(d); top != null; top = top.over(0)) {
                mount = top;
                directory = 0;
            }
        }

        int code() {
            return 1000 * mount.id + 20 * mount.volume + directory;
        }
    }

    /** All views and mounts. */
    private static final class MountTable {
        final Mount[] rows = new Mount[MOUNTS];
        final View[] views = new View[VIEWS];
        final Place place = new Place();
        int there;
        int viewsMade;
        private int lastPeer;

        MountTable() {
            for (int i = 0; i < MOUNTS; i++) {
                rows[i] = new Mount(i);
            }
        }

        View viewAt(int n) {
            return n < 0 || n >= viewsMade || n >= VIEWS ? null : views[n];
        }

        Mount mountAt(int n) {
            return n < 0 || n >= MOUNTS || rows[n].view == null ? null : rows[n];
        }

        /** The first view, with a private root of volume 0. */
        View openView() {
            View v = addView();
            v.root = occupy(v, 0, 0);
            return v;
        }

        private View addView() {
            View v = new View(viewsMade);
            if (viewsMade < VIEWS) {
                views[viewsMade] = v;
                viewsMade++;
            }
            return v;
        }

        /** Takes the free row with the least number; null when there is none. */
        private Mount occupy(View view, int volume, int peer) {
            for (int i = 0; i < MOUNTS; i++) {
                if (rows[i].view == null) {
                    rows[i].begin(view, volume, peer);
                    there++;
                    return rows[i];
                }
            }
            return null;
        }

        private int newPeer(boolean shared) {
            if (!shared) {
                return 0;
            }
            lastPeer++;
            return lastPeer;
        }

        int changePeer(Mount m, boolean shared) {
            int was = m.peer;
            m.peer = newPeer(shared);
            return was;
        }

        boolean canCopy(View view) {
            int needed = 0;
            for (int i = 0; i < MOUNTS; i++) {
                if (rows[i].view == view) {
                    needed++;
                }
            }
            return viewsMade < VIEWS && there + needed <= MOUNTS;
        }

        /**
         * The caller has asked canCopy. The copies get their numbers first: a mount may have a
         * lower number than the one in which it is.
         */
        View copyView(View from) {
            View to = addView();
            for (int i = 0; i < MOUNTS; i++) {
                if (rows[i].view == from) {
                    rows[i].twin = occupy(to, rows[i].volume, rows[i].peer);
                }
            }
            for (int i = 0; i < MOUNTS; i++) {
                if (rows[i].view == from) {
                    placeTwin(rows[i]);
                }
            }
            to.root = from.root.twin;
            return to;
        }

        private static void placeTwin(Mount m) {
            if (m.twin != null && m.under != null && m.under.twin != null) {
                m.twin.putOn(m.under.twin, m.directory);
            }
        }

        /** MOUNTED: the mount that is made on the one named, or FULL. */
        int add(Mount on, int directory, int volume, boolean shared) {
            if (there + placesFor(on, directory) > MOUNTS) {
                return FULL;
            }
            int peer = newPeer(shared);
            int first = addOne(on, directory, volume, peer);
            for (int i = 0; i < MOUNTS; i++) {
                if (isPeer(rows[i], on) && rows[i].over(directory) == null) {
                    addOne(rows[i], directory, volume, peer);
                }
            }
            return first;
        }

        private int addOne(Mount on, int directory, int volume, int peer) {
            Mount m = occupy(on.view, volume, peer);
            if (m == null) {
                return FULL;
            }
            m.putOn(on, directory);
            return m.id;
        }

        private int placesFor(Mount on, int directory) {
            int places = 1;
            for (int i = 0; i < MOUNTS; i++) {
                if (isPeer(rows[i], on) && rows[i].over(directory) == null) {
                    places++;
                }
            }
            return places;
        }

        private static boolean isPeer(Mount m, Mount other) {
            return m != other && m.view != null && m.peer != 0 && m.peer == other.peer;
        }

        /** UNMOUNTED: how many mounts are no more, or the refusal. */
        int remove(Mount m) {
            Mount under = m.under;
            if (under == null) {
                return NONE;
            }
            if (m.carried > 0) {
                return BUSY;
            }
            int directory = m.directory;
            removeOne(m);
            int removed = 1;
            for (int i = 0; i < MOUNTS; i++) {
                Mount same = isPeer(rows[i], under) ? rows[i].over(directory) : null;
                if (same != null && same.volume == m.volume && same.carried == 0) {
                    removeOne(same);
                    removed++;
                }
            }
            return removed;
        }

        private void removeOne(Mount m) {
            m.takeOff();
            there--;
        }
    }
}
