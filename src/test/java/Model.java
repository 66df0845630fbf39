import java.util.ArrayList;
import java.util.List;
import java.util.TreeMap;

/**
 * The document once more, for RandomRunsTest: nothing is kept that can be found anew (sums, who
 * is ready, children), so that it goes wrong in other ways than the class does.
 */
final class Model {
    static final int NONE = -1, FULL = -2, LIMIT = -3, BUSY = -4, KILLED = -5;

    private static final class T {
        int state, parent, space, group, view, pages, bad, ran;
        boolean asleep;
        long time;
        TreeMap<Integer, Integer> numbers = new TreeMap<>();
    }

    private static final class G {
        int in, max = 1000000, most = 150, weight = 100, quota, cache, ran;
        long time;
    }

    private static final class M {
        int view, in, dir, volume, peer;

        M(int view, int in, int dir, int volume, int peer) {
            this.view = view;
            this.in = in;
            this.dir = dir;
            this.volume = volume;
            this.peer = peer;
        }
    }

    private final List<T> tasks = new ArrayList<>();
    private final List<G> groups = new ArrayList<>();
    private final List<Integer> spaceIn = new ArrayList<>();
    private final List<Integer> spaceInit = new ArrayList<>();
    private final List<Integer> spaceLast = new ArrayList<>();
    private final TreeMap<Integer, M> mounts = new TreeMap<>();
    private int views = 1, peers, ticks, victims;

    Model() {
        groups.add(new G());
        groups.get(0).in = -1;
        spaceIn.add(-1);
        spaceInit.add(0);
        spaceLast.add(1);
        T t = new T();
        t.parent = -1;
        t.numbers.put(0, 1);
        tasks.add(t);
        mounts.put(0, new M(0, -1, 0, 0, 0));
    }

    private static void index(boolean fine) {
        if (!fine) {
            throw new IndexOutOfBoundsException();
        }
    }

    private static void argument(boolean fine) {
        if (!fine) {
            throw new IllegalArgumentException();
        }
    }

    private boolean ever(int t) {
        return t >= 0 && t < tasks.size();
    }

    private boolean live(int t) {
        return ever(t) && tasks.get(t).state == 0;
    }

    private boolean isGroup(int g) {
        return g >= 0 && g < groups.size();
    }

    private List<Integer> spacesFrom(int s) {
        List<Integer> chain = new ArrayList<>();
        for (; s >= 0; s = spaceIn.get(s)) {
            chain.add(s);
        }
        return chain;
    }

    private List<Integer> groupsFrom(int g) {
        List<Integer> chain = new ArrayList<>();
        for (; g >= 0; g = groups.get(g).in) {
            chain.add(g);
        }
        return chain;
    }

    private int uses(int g) {
        int sum = groups.get(g).cache;
        for (T t : tasks) {
            sum += t.state == 0 && t.group == g ? t.pages : 0;
        }
        for (int i = 0; i < groups.size(); i++) {
            sum += groups.get(i).in == g ? uses(i) : 0;
        }
        return sum;
    }

    private int liveIn(int g) {
        int n = 0;
        for (T t : tasks) {
            n += t.state == 0 && groupsFrom(t.group).contains(g) ? 1 : 0;
        }
        return n;
    }

    int find(int space, int number) {
        index(space >= 0 && space < spaceIn.size());
        for (int i = 0; i < tasks.size(); i++) {
            Integer n = tasks.get(i).numbers.get(space);
            if (n != null && n == number) {
                return i;
            }
        }
        return NONE;
    }

    private int nextNumber(int space) {
        int last = spaceLast.get(space);
        for (int k = 0; k < 40; k++) {
            int n = (last + k) % 40 + 1;
            if (find(space, n) == NONE) {
                return n;
            }
        }
        return 0;
    }

    int fork(int task, boolean space, boolean view) {
        if (!live(task)) {
            return NONE;
        }
        T p = tasks.get(task);
        for (int g : groupsFrom(p.group)) {
            if (liveIn(g) >= groups.get(g).most) {
                return LIMIT;
            }
        }
        int inView = 0;
        for (M m : mounts.values()) {
            inView += m.view == p.view ? 1 : 0;
        }
        boolean full = tasks.size() >= 150;
        full |= space && (spaceIn.size() >= 20 || spacesFrom(p.space).size() > 4);
        for (int s : spacesFrom(p.space)) {
            full |= nextNumber(s) == 0;
        }
        full |= view && (views >= 10 || mounts.size() + inView > 80);
        if (full) {
            return FULL;
        }
        T t = new T();
        int id = tasks.size();
        t.parent = task;
        t.group = p.group;
        t.space = p.space;
        if (space) {
            t.space = spaceIn.size();
            spaceIn.add(p.space);
            spaceInit.add(id);
            spaceLast.add(0);
        }
        t.view = view ? copyView(p.view) : p.view;
        for (int s : spacesFrom(t.space)) {
            int n = nextNumber(s);
            t.numbers.put(s, n);
            spaceLast.set(s, n);
        }
        tasks.add(t);
        long least = leastOther(t.group, id);
        t.time = Math.max(0, least);
        return id;
    }

    private int copyView(int from) {
        int to = views++;
        TreeMap<Integer, Integer> twin = new TreeMap<>();
        for (int m : new ArrayList<>(mounts.keySet())) {
            M old = mounts.get(m);
            if (old.view == from) {
                int n = leastFree();
                twin.put(m, n);
                mounts.put(n, new M(to, old.in, old.dir, old.volume, old.peer));
            }
        }
        for (int n : twin.values()) {
            M m = mounts.get(n);
            m.in = m.in < 0 ? -1 : twin.get(m.in);
        }
        return to;
    }

    int exit(int task) {
        return live(task) && task != 0 ? end(task) : NONE;
    }

    private int end(int id) {
        int before = count(1);
        endOne(id);
        for (int i = 0; i < tasks.size(); i++) {
            T t = tasks.get(i);
            if (t.state == 1 && (t.parent <= 0 || !live(t.parent))) {
                vanish(i);
            }
        }
        return before - count(1);
    }

    private void endOne(int id) {
        T t = tasks.get(id);
        boolean init = spaceInit.get(t.space) == id;
        int heir = spaceInit.get(init ? spaceIn.get(t.space) : t.space);
        t.state = 1;
        t.pages = 0;
        for (T c : tasks) {
            c.parent = c.parent == id ? heir : c.parent;
        }
        for (int i = 0; init && i < tasks.size(); i++) {
            T u = tasks.get(i);
            if (i != id && u.state != 2 && spacesFrom(u.space).contains(t.space)) {
                if (u.state == 0) {
                    endOne(i);
                }
                vanish(i);
            }
        }
    }

    private void vanish(int id) {
        T t = tasks.get(id);
        t.state = 2;
        t.parent = -1;
        t.numbers.clear();
    }

    int reap(int task) {
        if (!live(task)) {
            return NONE;
        }
        int space = tasks.get(task).space;
        int best = -1;
        for (int i = 0; i < tasks.size(); i++) {
            if (tasks.get(i).state == 1 && tasks.get(i).parent == task
                    && (best < 0 || number(i, space) < number(best, space))) {
                best = i;
            }
        }
        int n = best < 0 ? 0 : number(best, space);
        if (best >= 0) {
            vanish(best);
        }
        return n;
    }

    int kill(int task, int number) {
        if (!live(task)) {
            return NONE;
        }
        int space = tasks.get(task).space;
        int target = find(space, number);
        if (target < 0) {
            return NONE;
        }
        return target == 0 || target == spaceInit.get(space) || !live(target) ? 0 : end(target);
    }

    int number(int task, int space) {
        index(space >= 0 && space < spaceIn.size());
        return ever(task) ? tasks.get(task).numbers.getOrDefault(space, 0) : NONE;
    }

    int task(int task, int what) {
        index(what >= 0 && what <= 7);
        if (!ever(task)) {
            return NONE;
        }
        T t = tasks.get(task);
        return new int[] {t.state, t.parent, t.space, t.group, t.view, t.pages, t.bad,
            t.asleep ? 1 : 0}[what];
    }

    int count(int what) {
        index(what >= 0 && what <= 8);
        int[] states = new int[3];
        for (T t : tasks) {
            states[t.state]++;
        }
        return new int[] {tasks.size(), states[0], states[1], spaceIn.size(), groups.size(), views,
            mounts.size(), ticks, victims}[what];
    }

    int group(int within) {
        if (!isGroup(within)) {
            return NONE;
        }
        if (groups.size() >= 20 || groupsFrom(within).size() > 5) {
            return FULL;
        }
        G g = new G();
        g.in = within;
        g.time = Math.max(0, leastOther(within, -1));
        groups.add(g);
        return groups.size() - 1;
    }

    int set(int group, int what, int v) {
        index(what >= 0 && what <= 3);
        argument(v >= (what == 2 ? 1 : 0) && v <= new int[] {1000000, 150, 1000, 20}[what]);
        if (!isGroup(group)) {
            return NONE;
        }
        if (what == 0 && uses(group) > v || what == 1 && liveIn(group) > v) {
            return LIMIT;
        }
        G g = groups.get(group);
        int was = told(group, what + 3);
        g.max = what == 0 ? v : g.max;
        g.most = what == 1 ? v : g.most;
        g.weight = what == 2 ? v : g.weight;
        g.quota = what == 3 ? v : g.quota;
        return was;
    }

    int told(int group, int what) {
        index(what >= 0 && what <= 8);
        if (!isGroup(group)) {
            return NONE;
        }
        G g = groups.get(group);
        return new int[] {uses(group), liveIn(group), g.cache, g.max, g.most, g.weight, g.quota,
            g.ran, g.in}[what];
    }

    private int room(int payer, int n) {
        for (int g : groupsFrom(tasks.get(payer).group)) {
            while (uses(g) + n > groups.get(g).max) {
                int lack = uses(g) + n - groups.get(g).max;
                int rich = -1;
                for (int i = 0; i < groups.size(); i++) {
                    if (groupsFrom(i).contains(g) && groups.get(i).cache > 0
                            && (rich < 0 || groups.get(i).cache > groups.get(rich).cache)) {
                        rich = i;
                    }
                }
                if (rich >= 0) {
                    groups.get(rich).cache -= Math.min(lack, groups.get(rich).cache);
                    continue;
                }
                int victim = victim(g);
                if (victim < 0) {
                    return LIMIT;
                }
                victims++;
                end(victim);
                if (!live(payer)) {
                    return KILLED;
                }
            }
        }
        return 0;
    }

    private int victim(int g) {
        int worst = -1;
        int most = 0;
        for (int i = tasks.size() - 1; i > 0; i--) {
            T t = tasks.get(i);
            int score = t.pages + 100 * t.bad;
            if (t.state == 0 && t.bad != -10 && groupsFrom(t.group).contains(g)
                    && (worst < 0 || score > most)) {
                worst = i;
                most = score;
            }
        }
        return worst;
    }

    int charge(int task, int n) {
        argument(n >= 0 && n <= 1000000);
        int refusal = live(task) ? room(task, n) : NONE;
        return refusal < 0 ? refusal : (tasks.get(task).pages += n);
    }

    int release(int task, int n) {
        argument(n >= 0);
        if (!live(task)) {
            return NONE;
        }
        return tasks.get(task).pages < n ? LIMIT : (tasks.get(task).pages -= n);
    }

    int cache(int task, int n) {
        argument(n >= 0 && n <= 1000000);
        int refusal = live(task) ? room(task, n) : NONE;
        return refusal < 0 ? refusal : (groups.get(tasks.get(task).group).cache += n);
    }

    int move(int task, int group) {
        if (!live(task) || !isGroup(group)) {
            return NONE;
        }
        T t = tasks.get(task);
        if (t.group == group) {
            return 0;
        }
        List<Integer> fresh = groupsFrom(group);
        fresh.removeAll(groupsFrom(t.group));
        for (int g : fresh) {
            if (liveIn(g) + 1 > groups.get(g).most || uses(g) + t.pages > groups.get(g).max) {
                return LIMIT;
            }
        }
        t.group = group;
        t.time = Math.max(0, leastOther(group, task));
        return 1;
    }

    int badness(int task, int v) {
        argument(v >= -10 && v <= 10);
        if (!live(task)) {
            return NONE;
        }
        tasks.get(task).bad = v;
        return 1;
    }

    private boolean taskReady(int t) {
        return live(t) && !tasks.get(t).asleep;
    }

    private boolean groupReady(int g) {
        G group = groups.get(g);
        if (group.quota != 0 && group.ran >= group.quota) {
            return false;
        }
        for (int i = 0; i < tasks.size(); i++) {
            if (tasks.get(i).group == g && taskReady(i)) {
                return true;
            }
        }
        for (int i = 0; i < groups.size(); i++) {
            if (groups.get(i).in == g && groupReady(i)) {
                return true;
            }
        }
        return false;
    }

    private long leastOther(int g, int but) {
        long least = Long.MAX_VALUE;
        for (int i = 0; i < tasks.size(); i++) {
            if (i != but && tasks.get(i).group == g && taskReady(i)) {
                least = Math.min(least, tasks.get(i).time);
            }
        }
        for (int i = 0; i < groups.size(); i++) {
            if (groups.get(i).in == g && groupReady(i)) {
                least = Math.min(least, groups.get(i).time);
            }
        }
        return least == Long.MAX_VALUE ? -1 : least;
    }

    private int tick() {
        int chosen = -1;
        int g = 0;
        while (g >= 0 && chosen < 0) {
            long least = leastOther(g, -1);
            int next = -1;
            for (int i = 0; i < tasks.size() && chosen < 0; i++) {
                if (tasks.get(i).group == g && taskReady(i) && tasks.get(i).time == least) {
                    chosen = i;
                }
            }
            for (int i = 0; i < groups.size() && chosen < 0 && next < 0; i++) {
                if (groups.get(i).in == g && groupReady(i) && groups.get(i).time == least) {
                    next = i;
                }
            }
            g = next;
        }
        if (chosen >= 0) {
            tasks.get(chosen).time += 10000;
            tasks.get(chosen).ran++;
            for (int i : groupsFrom(tasks.get(chosen).group)) {
                groups.get(i).ran++;
                groups.get(i).time += i == 0 ? 0 : 1000000 / groups.get(i).weight;
            }
        }
        ticks++;
        for (G each : groups) {
            each.ran = ticks % 20 == 0 ? 0 : each.ran;
        }
        return chosen;
    }

    int ticks(int n) {
        argument(n >= 0 && n <= 200);
        int last = NONE;
        for (int i = 0; i < n; i++) {
            last = tick();
        }
        return last;
    }

    int sleep(int task, boolean is) {
        if (!live(task)) {
            return NONE;
        }
        T t = tasks.get(task);
        if (t.asleep == is) {
            return 0;
        }
        t.asleep = is;
        if (!is) {
            t.time = Math.max(t.time, leastOther(t.group, task));
        }
        return 1;
    }

    int ran(int task) {
        return ever(task) ? tasks.get(task).ran : -1;
    }

    long time(boolean group, int number) {
        if (group) {
            return isGroup(number) ? groups.get(number).time : -1;
        }
        return ever(number) ? tasks.get(number).time : -1;
    }

    private int leastFree() {
        int n = 0;
        while (mounts.containsKey(n)) {
            n++;
        }
        return n;
    }

    private int on(int mount, int dir) {
        for (int m : mounts.keySet()) {
            if (mounts.get(m).in == mount && mounts.get(m).dir == dir) {
                return m;
            }
        }
        return -1;
    }

    private boolean busy(int mount) {
        for (M m : mounts.values()) {
            if (m.in == mount) {
                return true;
            }
        }
        return false;
    }

    /** The mount and the directory; null when there is none. */
    private int[] place(int task, int path) {
        if (!live(task) || path < 1) {
            return null;
        }
        int[] at = {-1, 0};
        for (int m : mounts.keySet()) {
            if (mounts.get(m).view == tasks.get(task).view && mounts.get(m).in < 0) {
                at[0] = m;
            }
        }
        for (char step : ("s" + Integer.toBinaryString(path).substring(1)).toCharArray()) {
            if (step != 's') {
                at[1] = 2 * at[1] + (step == '0' ? 1 : 2);
            }
            if (at[1] > 14) {
                return null;
            }
            while (on(at[0], at[1]) >= 0) {
                at = new int[] {on(at[0], at[1]), 0};
            }
        }
        return at;
    }

    private List<Integer> peersOf(int mount) {
        List<Integer> others = new ArrayList<>();
        for (int m : mounts.keySet()) {
            if (m != mount && mounts.get(m).peer != 0
                    && mounts.get(m).peer == mounts.get(mount).peer) {
                others.add(m);
            }
        }
        return others;
    }

    int mount(int task, int path, int volume, boolean shared) {
        argument(volume >= 0 && volume <= 9);
        int[] at = place(task, path);
        if (at == null) {
            return NONE;
        }
        List<Integer> targets = new ArrayList<>();
        targets.add(at[0]);
        for (int m : peersOf(at[0])) {
            if (on(m, at[1]) < 0) {
                targets.add(m);
            }
        }
        if (mounts.size() + targets.size() > 80) {
            return FULL;
        }
        int peer = shared ? ++peers : 0;
        int first = leastFree();
        for (int m : targets) {
            mounts.put(leastFree(), new M(mounts.get(m).view, m, at[1], volume, peer));
        }
        return first;
    }

    int unmount(int task, int path) {
        int[] at = place(task, path);
        if (at == null || at[1] != 0 || mounts.get(at[0]).in < 0) {
            return NONE;
        }
        if (busy(at[0])) {
            return BUSY;
        }
        M gone = mounts.remove(at[0]);
        int n = 1;
        for (int m : peersOf(gone.in)) {
            int there = on(m, gone.dir);
            if (there >= 0 && mounts.get(there).volume == gone.volume && !busy(there)) {
                mounts.remove(there);
                n++;
            }
        }
        return n;
    }

    int at(int task, int path) {
        int[] at = place(task, path);
        return at == null ? NONE : 1000 * at[0] + 20 * mounts.get(at[0]).volume + at[1];
    }

    int share(int view, boolean shared) {
        index(view >= 0 && view < views);
        for (M m : mounts.values()) {
            if (m.view == view && m.in < 0) {
                int was = m.peer;
                m.peer = shared ? ++peers : 0;
                return was;
            }
        }
        return NONE;
    }

    int mounted(int mount, int what) {
        index(what >= 0 && what <= 4);
        M m = mounts.get(mount);
        return m == null ? NONE : new int[] {m.view, m.in, m.dir, m.volume, m.peer}[what];
    }
}
