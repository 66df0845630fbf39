/**
 * The edges that the document names for views and mounts (Terms, promises 22 to 26): a test for
 * each sentence, at the edge and on both sides of it.
 */
public final class MountEdgesTest {
    private static final int NONE = TaskTrees.NONE, FULL = TaskTrees.FULL, BUSY = TaskTrees.BUSY;
    private static final int LEAST = Integer.MIN_VALUE, MOST = Integer.MAX_VALUE;

    public static void main(String[] args) {
        viewsInAll();
        volumes();
        directories();
        directoriesOfAMount();
        leastFreeNumber();
        mountsInAll();
        mountsOnPeersInAll();
        mountsOnPeersThatAreNeeded();
        rootsOfViews();
        pathsOfOneOrMore();
        longestPaths();
        beginning();
        placeOnPlace();
        nowhereToGo();
        mountedInAllViews();
        mountedWhereNothingIs();
        mountedByNumbers();
        mountedOnPrivate();
        peerNumbers();
        mountAnswers();
        unmountOfARoot();
        unmountInDirectoryZero();
        unmountOfBusyOnes();
        unmountOnTheOthers();
        unmountOfOtherVolumes();
        unmountOfOthersThatAreBusy();
        unmountOnPrivate();
        unmountAnswers();
        newViewCopies();
        newViewOfACopy();
        newViewByNumbers();
        newViewIsFull();
        atAnswers();
        shareAnswers();
        mountedAnswers();
        Check.end();
    }

    /** View 0 with a shared root, and so many views more, of tasks 1, 2, .., that share it. */
    private static TaskTrees sharing(int more) {
        TaskTrees x = new TaskTrees();
        x.share(0, true);
        for (int i = 0; i < more; i++) {
            x.fork(0, false, true);
        }
        return x;
    }

    private static void viewsInAll() {
        Check.sentence("VIEWS 0 .. 9 of MOUNTS.");
        TaskTrees x = new TaskTrees();
        for (int i = 1; i <= 8; i++) {
            x.fork(0, false, true);
        }
        Check.due("9 views", x.count(5), 9);
        Check.index("not yet", () -> x.share(9, false));
        Check.due("the 10th", x.fork(0, false, true), 9);
        Check.due("its number", x.task(9, 4), 9);
        Check.due("its root", x.share(9, false), 0);
        Check.due("an 11th", x.fork(0, false, true), FULL);
        Check.due("of the last one", x.fork(9, true, true), FULL);
        Check.due("no new one, no matter", x.fork(9, true, false), 10);
        x.exit(9);
        Check.due("one that nobody has is counted", x.fork(0, false, true), FULL);
        Check.due("10 views", x.count(5), 10);
        Check.due("10 mounts", x.count(6), 10);
        Check.index("no view 10", () -> x.share(10, false));
    }

    private static void volumes() {
        Check.sentence("IllegalArgumentException: the volume is not 0 .. 9.");
        TaskTrees x = new TaskTrees();
        for (int volume = 0; volume <= 9; volume++) {
            Check.due("volume " + volume, x.mount(0, 2, volume, false), volume + 1);
            Check.due("it is there", x.at(0, 2), 1000 * (volume + 1) + 20 * volume);
        }
        int[] wrong = {-1, 10, LEAST, MOST};
        for (int volume : wrong) {
            Check.argument("volume " + volume, () -> x.mount(0, 2, volume, false));
            Check.argument("shared, " + volume, () -> x.mount(0, 2, volume, true));
            Check.argument("no task, " + volume, () -> x.mount(1, 2, volume, false));
            Check.argument("no path, " + volume, () -> x.mount(0, 0, volume, false));
        }
        Check.due("mounts", x.count(6), 11);
        Check.due("no peer number was used", x.share(0, true) + 10 * x.mounted(0, 4), 10);
    }

    private static void directories() {
        Check.sentence("A VOLUME 0 .. 9 has DIRECTORIES 0 .. 14; 2 d + 1 and 2 d + 2 are in d "
                + "(below 7).");
        TaskTrees x = new TaskTrees();
        for (int path = 1; path <= 15; path++) {
            Check.due("path " + path, x.at(0, path), path - 1);
        }
        for (int path = 16; path <= 31; path++) {
            Check.due("path " + path, x.at(0, path), NONE);
        }
    }

    private static void directoriesOfAMount() {
        Check.sentence("puts the directory 0 of a volume in the place of a directory of another "
                + "mount of its view");
        for (int d = 0; d <= 14; d++) {
            TaskTrees x = new TaskTrees();
            Check.due("in the place of " + d, x.mount(0, d + 1, 9, false), 1);
            Check.due("its mount", x.mounted(1, 1), 0);
            Check.due("its directory", x.mounted(1, 2), d);
            Check.due("there", x.at(0, d + 1), 1180);
            Check.due("one step within", x.at(0, 2 * d + 3), 1182);
            Check.due("three steps within", x.at(0, 8 * d + 8), 1187);
            Check.due("three other steps", x.at(0, 8 * d + 15), 1194);
            Check.due("four steps within", x.at(0, 16 * d + 16), NONE);
        }
    }

    private static void leastFreeNumber() {
        Check.sentence("A MOUNT (0, 1, ..: the least number that is free");
        TaskTrees x = new TaskTrees();
        for (int i = 1; i <= 4; i++) {
            Check.due("mount " + i, x.mount(0, 10 + i, i, false), i);
        }
        x.unmount(0, 12);
        x.unmount(0, 13);
        Check.due("2 and 3 are free", x.mount(0, 15, 5, false), 2);
        Check.due("3 is free", x.mount(0, 10, 6, false), 3);
        Check.due("none below 5", x.mount(0, 9, 7, false), 5);
        x.unmount(0, 9);
        Check.due("the last again", x.mount(0, 9, 8, false), 5);
        Check.due("its volume is new", x.mounted(5, 3), 8);
    }

    private static void mountsInAll() {
        Check.sentence("80 there may be");
        TaskTrees x = new TaskTrees();
        for (int i = 1; i <= 78; i++) {
            x.mount(0, 2, 1, false);
        }
        Check.due("79 mounts", x.count(6), 79);
        Check.due("79 is free", x.mounted(79, 3), NONE);
        Check.due("the 80th", x.mount(0, 2, 7, false), 79);
        Check.due("it is there", x.at(0, 2), 79140);
        Check.due("an 81st", x.mount(0, 2, 1, false), FULL);
        Check.due("in another place", x.mount(0, 3, 1, true), FULL);
        Check.due("80 mounts", x.count(6), 80);
        Check.due("one goes", x.unmount(0, 2), 1);
        Check.due("one comes", x.mount(0, 3, 8, true), 79);
        Check.due("no peer number was used by the refused", x.mounted(79, 4), 1);
        Check.due("none more", x.mount(0, 3, 1, false), FULL);
        Check.due("no path comes ahead of it", x.mount(0, 0, 1, false), NONE);
    }

    /** Two views that share their root, and so many mounts in all. */
    private static TaskTrees sharingAmong(int mounts) {
        TaskTrees x = sharing(1);
        x.mount(0, 2, 1, false);
        while (x.count(6) < mounts) {
            x.mount(0, 2, 1, false);
        }
        return x;
    }

    private static void mountsOnPeersInAll() {
        Check.sentence("If that mount has a peer number, the same is done on every mount with "
                + "that peer number (in all views)");
        TaskTrees x = sharingAmong(77);
        Check.due("two of three", x.mount(0, 3, 5, false), 77);
        Check.due("79 then", x.count(6), 79);
        TaskTrees y = sharingAmong(78);
        Check.due("the last two", y.mount(1, 3, 5, false), 78);
        Check.due("80 then", y.count(6), 80);
        Check.due("both", y.at(0, 3) + y.at(1, 3), 79100 + 78100);
        TaskTrees z = sharingAmong(79);
        Check.due("room for one of two", z.mount(0, 3, 5, true), FULL);
        Check.due("nor from the other view", z.mount(1, 3, 5, false), FULL);
        Check.due("none is made", z.count(6), 79);
        Check.due("in no view", z.at(0, 3) + 10000 * z.at(1, 3), 2 + 10000 * 1002);
        Check.due("room for one alone", z.mount(0, 2, 5, true), 79);
        Check.due("no peer number was used", z.mounted(79, 4), 2);
    }

    private static void mountsOnPeersThatAreNeeded() {
        Check.sentence("in which nothing is in that place yet");
        TaskTrees x = sharing(1);
        x.mount(0, 3, 1, false);
        x.mount(1, 3, 2, false);
        x.unmount(0, 3);
        while (x.count(6) < 79) {
            x.mount(1, 3, 2, false);
        }
        Check.due("one is enough", x.mount(0, 3, 5, false), 79);
        Check.due("80 then", x.count(6), 80);
    }

    private static void rootsOfViews() {
        Check.sentence("each view has one ROOT mount, of volume 0");
        TaskTrees x = new TaskTrees();
        x.mount(0, 1, 5, false);
        x.fork(0, false, true);
        Check.due("root of view 0", x.mounted(0, 1), -1);
        Check.due("its volume", x.mounted(0, 3), 0);
        Check.due("root of view 1", x.mounted(2, 1), -1);
        Check.due("its view", x.mounted(2, 0), 1);
        Check.due("its volume", x.mounted(2, 3), 0);
        Check.due("its directory", x.mounted(2, 2), 0);
        Check.due("on it", x.mounted(3, 1), 2);
        Check.due("what is on it has a directory 0, too", x.mounted(3, 2), 0);
        TaskTrees y = new TaskTrees();
        y.mount(0, 15, 9, true);
        y.unmount(0, 15);
        y.fork(0, false, true);
        int[] root = {1, -1, 0, 0, 0};
        for (int what = 0; what < 5; what++) {
            Check.due("in the row of one that was, " + what, y.mounted(1, what), root[what]);
        }
    }

    private static void pathsOfOneOrMore() {
        Check.sentence("A PATH is a number p of 1 or more");
        TaskTrees x = new TaskTrees();
        x.mount(0, 2, 1, false);
        int[] none = {0, -1, -2, LEAST, LEAST + 2};
        for (int path : none) {
            Check.due("at " + path, x.at(0, path), NONE);
            Check.due("mount at " + path, x.mount(0, path, 1, false), NONE);
            Check.due("unmount at " + path, x.unmount(0, path), NONE);
        }
        Check.due("at 1", x.at(0, 1), 0);
        Check.due("at 2", x.at(0, 2), 1020);
        Check.due("unmount at 1, a root", x.unmount(0, 1), NONE);
        Check.due("mount at 1", x.mount(0, 1, 2, false), 2);
        Check.due("unmount at 1", x.unmount(0, 1), 1);
        Check.due("unmount at 2", x.unmount(0, 2), 1);
    }

    private static void longestPaths() {
        Check.sentence("its bits below the highest one, from the left, are steps from directory "
                + "0 of the root mount");
        TaskTrees x = new TaskTrees();
        int path = 1;
        for (int i = 1; i <= 10; i++) {
            path = 8 * path + 7;
            Check.due("mount at " + path, x.mount(0, path, i % 10, false), i);
        }
        Check.due("the greatest path", path, MOST);
        Check.due("30 steps", x.at(0, MOST), 10000);
        Check.due("the last step to the other side", x.at(0, MOST - 1), 9193);
        Check.due("the first step to the other side", x.at(0, 3 << 29), NONE);
        Check.due("29 steps", x.at(0, MOST / 2), 9186);
        Check.due("zeros", x.at(0, 1 << 30), NONE);
        Check.due("from the left", x.at(0, 12), 11);
        Check.due("not from the right", x.at(0, 9), 8);
    }

    private static void beginning() {
        Check.sentence("where a mount is in the place of a directory that is come to (that of "
                + "the beginning, too), one is in its directory 0");
        TaskTrees x = new TaskTrees();
        Check.due("nothing at the beginning", x.at(0, 2), 1);
        x.mount(0, 3, 6, false);
        x.mount(0, 1, 5, false);
        Check.due("the beginning", x.at(0, 1), 2100);
        Check.due("a step from there", x.at(0, 2), 2101);
        Check.due("what was there is hidden", x.at(0, 3), 2102);
        Check.due("and may be mounted on again", x.mount(0, 3, 7, false), 3);
        Check.due("in the one at the beginning", x.mounted(3, 1), 2);
        x.unmount(0, 3);
        x.unmount(0, 1);
        Check.due("the beginning again", x.at(0, 1), 0);
        Check.due("what was there again", x.at(0, 3), 1120);
        Check.due("on the way", x.at(0, 6), 1121);
    }

    private static void placeOnPlace() {
        Check.sentence("(and on, if one is in the place of that)");
        TaskTrees x = new TaskTrees();
        for (int i = 1; i <= 79; i++) {
            Check.due("one on the other", x.mount(0, 2, i % 10, false), i);
            Check.due("in the one below", x.mounted(i, 1), i - 1);
            Check.due("the one on top", x.at(0, 2), 1000 * i + 20 * (i % 10));
        }
        Check.due("a step from the top", x.at(0, 5), 79182);
        for (int i = 79; i >= 1; i--) {
            Check.due("from the top", x.unmount(0, 2), 1);
        }
        Check.due("the root's", x.at(0, 2), 1);
        Check.due("none is left", x.count(6), 1);
    }

    private static void nowhereToGo() {
        Check.sentence("There is none, if a step has nowhere to go.");
        TaskTrees x = new TaskTrees();
        Check.due("from 6 to 13", x.at(0, 14), 13);
        Check.due("from 6 to 14", x.at(0, 15), 14);
        Check.due("from 7", x.at(0, 16), NONE);
        Check.due("from 7, the other way", x.at(0, 17), NONE);
        Check.due("from 14", x.at(0, 31), NONE);
        Check.due("two steps from 14", x.at(0, 63), NONE);
        Check.due("no mount there", x.mount(0, 16, 1, false), NONE);
        Check.due("no unmount there", x.unmount(0, 16), NONE);
        x.mount(0, 8, 1, false);
        Check.due("from 7, with a mount there", x.at(0, 16), 1021);
        Check.due("from 8, without", x.at(0, 18), NONE);
        Check.due("to its 7", x.at(0, 64), 1027);
        Check.due("from its 7", x.at(0, 128), NONE);
        Check.due("mounted", x.count(6), 2);
    }

    private static void mountedInAllViews() {
        Check.sentence("If that mount has a peer number, the same is done on every mount with "
                + "that peer number (in all views)");
        TaskTrees x = sharing(9);
        x.share(9, false);
        x.exit(5);
        Check.due("in nine views", x.mount(3, 4, 7, true), 10);
        Check.due("nine mounts more", x.count(6), 19);
        int[] views = {3, 0, 1, 2, 4, 5, 6, 7, 8};
        for (int i = 0; i < 9; i++) {
            Check.due("view of " + (10 + i), x.mounted(10 + i, 0), views[i]);
            Check.due("mount of " + (10 + i), x.mounted(10 + i, 1), views[i]);
            Check.due("directory of " + (10 + i), x.mounted(10 + i, 2), 3);
            Check.due("volume of " + (10 + i), x.mounted(10 + i, 3), 7);
            Check.due("peer number of " + (10 + i), x.mounted(10 + i, 4), 2);
        }
        Check.due("not in the private one", x.at(9, 4), 9003);
    }

    private static void mountedWhereNothingIs() {
        Check.sentence("in which nothing is in that place yet");
        TaskTrees x = sharing(2);
        x.mount(0, 3, 1, false);
        x.mount(1, 3, 2, false);
        Check.due("one of three is busy", x.unmount(0, 3), 2);
        Check.due("the first is free", x.mount(0, 3, 3, false), 3);
        Check.due("on the third, too", x.at(2, 3), 5060);
        Check.due("not on the second", x.at(1, 3), 6040);
        Check.due("two more", x.count(6), 7);
        Check.due("another place is free in all", x.mount(1, 2, 4, false), 7);
        Check.due("three more", x.count(6), 10);
        x.unmount(0, 2);
        x.share(1, false);
        x.unmount(1, 3);
        x.unmount(1, 3);
        Check.due("in a private one alone", x.mount(1, 3, 5, false), 4);
    }

    private static void mountedByNumbers() {
        Check.sentence("by their numbers, this one first");
        TaskTrees x = sharing(3);
        Check.due("of the last", x.mount(3, 2, 1, false), 4);
        for (int t = 0; t <= 2; t++) {
            Check.due("then task " + t + "'s", x.at(t, 2), 1000 * (5 + t) + 20);
        }
        Check.due("of the first", x.mount(0, 3, 1, false), 8);
        for (int t = 1; t <= 3; t++) {
            Check.due("then the others', " + t, x.at(t, 3), 1000 * (8 + t) + 20);
        }
        x.unmount(1, 2);
        Check.due("in the free numbers", x.mount(2, 4, 1, false), 4);
        int[] numbers = {5, 6, 4, 7};
        for (int t = 0; t <= 3; t++) {
            Check.due("number of task " + t + "'s", x.at(t, 4), 1000 * numbers[t] + 20);
        }
    }

    private static void mountedOnPrivate() {
        Check.sentence("A mount has a PEER number, 0 for one that is PRIVATE.");
        TaskTrees x = new TaskTrees();
        x.fork(0, false, true);
        x.mount(0, 2, 1, false);
        Check.due("both are private, one more", x.count(6), 3);
        Check.due("nothing in the other", x.at(1, 2), 1001);
        Check.due("its peer number", x.mounted(2, 4), 0);
        x.share(0, true);
        x.share(1, true);
        x.mount(0, 3, 1, false);
        Check.due("numbers of their own, one more", x.count(6), 4);
        Check.due("nothing in the other again", x.at(1, 3), 1002);
        x.mount(0, 5, 1, true);
        Check.due("on a private mount", x.count(6), 5);
        Check.due("with a number of its own", x.mounted(4, 4), 3);
    }

    private static void peerNumbers() {
        Check.sentence("All that are made so are private, or, SHARED, get one new peer number, "
                + "all the same one (1, 2, .. as they are needed).");
        TaskTrees x = new TaskTrees();
        x.mount(0, 2, 1, true);
        Check.due("1", x.mounted(1, 4), 1);
        x.mount(0, 3, 1, false);
        Check.due("private", x.mounted(2, 4), 0);
        x.share(0, true);
        Check.due("2", x.mounted(0, 4), 2);
        x.share(0, false);
        x.share(0, true);
        Check.due("3", x.mounted(0, 4), 3);
        x.fork(0, false, true);
        Check.due("the copy's is no new one", x.mounted(3, 4), 3);
        x.mount(0, 6, 1, true);
        Check.due("4", x.mounted(6, 4), 4);
        Check.due("NONE uses none", x.mount(0, 0, 1, true), NONE);
        x.unmount(0, 6);
        x.mount(1, 8, 1, true);
        Check.due("5, no old one", x.mounted(6, 4), 5);
        Check.due("5 for the other one", x.mounted(7, 4), 5);
        x.unmount(1, 8);
        x.share(0, false);
        x.share(1, false);
        x.unmount(0, 2);
        x.unmount(1, 2);
        x.mount(0, 1, 1, true);
        Check.due("6, though none has another", x.mounted(1, 4), 6);
    }

    private static void mountAnswers() {
        Check.sentence("MOUNTED at a live task's path, in its view: the mount; NONE; FULL.");
        TaskTrees x = new TaskTrees();
        x.fork(0, true, true);
        x.fork(1, false, false);
        Check.due("task 2's view is 1", x.mount(2, 2, 1, false), 2);
        Check.due("its view", x.mounted(2, 0), 1);
        Check.due("its parent's view", x.at(1, 2), 2020);
        Check.due("task 0's view", x.at(0, 2), 1);
        x.exit(2);
        Check.due("a zombie", x.mount(2, 2, 1, false), NONE);
        x.reap(1);
        Check.due("gone", x.mount(2, 2, 1, false), NONE);
        int[] never = {-1, 3, 150, LEAST, MOST};
        for (int t : never) {
            Check.due("mount by " + t, x.mount(t, 2, 1, false), NONE);
        }
        Check.due("nothing more", x.count(6), 3);
    }

    private static void unmountOfARoot() {
        Check.sentence("(not a root mount, and no other mount in the place of any of its "
                + "directories: BUSY)");
        TaskTrees x = new TaskTrees();
        Check.due("a root", x.unmount(0, 1), NONE);
        x.mount(0, 2, 1, false);
        Check.due("a root with a mount on it", x.unmount(0, 1), NONE);
        x.mount(0, 1, 1, false);
        Check.due("the one on it", x.unmount(0, 1), 1);
        Check.due("the root again", x.unmount(0, 1), NONE);
        x.fork(0, false, true);
        Check.due("a copied root", x.unmount(1, 1), NONE);
        Check.due("mounts", x.count(6), 4);
    }

    private static void unmountInDirectoryZero() {
        Check.sentence("NONE (also a root mount, or one that is come to not in its directory 0); "
                + "BUSY.");
        TaskTrees x = new TaskTrees();
        x.mount(0, 2, 1, false);
        for (int step = 4; step <= 5; step++) {
            Check.due("one step in", x.unmount(0, step), NONE);
            Check.due("two steps in", x.unmount(0, 2 * step), NONE);
        }
        Check.due("beside it", x.unmount(0, 3), NONE);
        Check.due("in its directory 0", x.unmount(0, 2), 1);
        Check.due("it is no more", x.unmount(0, 2), NONE);
        x.mount(0, 2, 1, false);
        x.mount(0, 4, 2, false);
        Check.due("busy, but not in its directory 0", x.unmount(0, 5), NONE);
        Check.due("busy", x.unmount(0, 2), BUSY);
    }

    private static void unmountOfBusyOnes() {
        Check.sentence("no other mount in the place of any of its directories: BUSY");
        for (int d = 1; d <= 14; d++) {
            TaskTrees x = new TaskTrees();
            x.mount(0, 2, 1, false);
            int within = within(2, d);
            Check.due("in the place of " + d, x.mount(0, within, 2, false), 2);
            Check.due("that directory", x.mounted(2, 2), d);
            Check.due("busy with " + d, x.unmount(0, 2), BUSY);
            Check.due("both are there", x.count(6), 3);
            Check.due("the inner one goes", x.unmount(0, within), 1);
            Check.due("not busy any more", x.unmount(0, 2), 1);
        }
        TaskTrees x = new TaskTrees();
        x.mount(0, 2, 1, false);
        x.mount(0, 2, 2, false);
        Check.due("in the place of 0: the one on top goes", x.unmount(0, 2), 1);
        Check.due("volume 1 is left", x.at(0, 2), 1020);
        x.mount(0, 4, 2, false);
        x.mount(0, 5, 2, false);
        x.unmount(0, 5);
        Check.due("one of two is left", x.unmount(0, 2), BUSY);
        x.unmount(0, 4);
        Check.due("none is left", x.unmount(0, 2), 1);
    }

    /** The path that leads from a mount's path to its directory d. */
    private static int within(int path, int d) {
        int steps = d < 1 ? 0 : d < 3 ? 1 : d < 7 ? 2 : 3;
        return (path << steps) + d + 1 - (1 << steps);
    }

    private static void unmountOnTheOthers() {
        Check.sentence("If the mount in which it was has a peer number, then also, on the others "
                + "with that number, by their numbers, one after the other, what is there in the "
                + "same place");
        TaskTrees x = sharing(4);
        x.mount(0, 2, 1, false);
        x.mount(0, 3, 1, false);
        Check.due("15 mounts", x.count(6), 15);
        x.share(4, false);
        Check.due("four of five", x.unmount(2, 2), 4);
        Check.due("the private one's stays", x.at(4, 2), 9020);
        Check.due("another place stays", x.at(0, 3), 10020);
        Check.due("in all views", x.at(3, 3), 13020);
        Check.due("11 mounts", x.count(6), 11);
        x.mount(0, 2, 1, false);
        x.mount(1, 2, 2, false);
        x.unmount(0, 2);
        Check.due("one is left of them", x.at(1, 2) % 1000, 40);
        x.unmount(1, 2);
        Check.due("there is nothing on the others", x.unmount(1, 2), 1);
        x.exit(3);
        Check.due("a view that nobody has, too", x.unmount(1, 3), 4);
        Check.due("the private one's two stay", x.count(6), 7);
    }

    private static void unmountOfOtherVolumes() {
        Check.sentence("of the same volume");
        TaskTrees x = sharing(2);
        x.mount(0, 2, 1, false);
        x.mount(1, 2, 2, false);
        x.unmount(0, 2);
        x.mount(0, 2, 3, false);
        Check.due("3, 1 with 2 on it, 3", x.count(6), 7);
        x.unmount(1, 2);
        Check.due("the other volumes stay", x.unmount(1, 2), 1);
        Check.due("there", x.at(0, 2) % 1000, 60);
        Check.due("and there", x.at(2, 2) % 1000, 60);
        Check.due("the same volume goes", x.unmount(2, 2), 2);
        Check.due("the roots are left", x.count(6), 3);
    }

    private static void unmountOfOthersThatAreBusy() {
        Check.sentence("and not BUSY then");
        TaskTrees x = sharing(2);
        x.mount(0, 2, 1, false);
        x.mount(1, 4, 2, false);
        Check.due("the busy one itself", x.unmount(1, 2), BUSY);
        Check.due("no other went", x.count(6), 7);
        Check.due("all but the busy one", x.unmount(2, 2), 2);
        Check.due("it stays", x.at(1, 2), 4020);
        Check.due("and what is on it", x.at(1, 4), 6040);
        x.unmount(1, 4);
        Check.due("not busy any more", x.unmount(1, 2), 1);
        x.mount(0, 2, 1, false);
        x.mount(1, 4, 2, false);
        x.unmount(1, 4);
        Check.due("none is busy", x.unmount(2, 2), 3);
    }

    private static void unmountOnPrivate() {
        Check.sentence("If the mount in which it was has a peer number");
        TaskTrees x = new TaskTrees();
        x.mount(0, 2, 1, true);
        x.fork(0, false, true);
        Check.due("a shared one in a private one", x.unmount(0, 2), 1);
        Check.due("the copy stays", x.at(1, 2), 3020);
        x.mount(1, 4, 5, false);
        Check.due("on the copy", x.at(1, 4) % 1000, 100);
        Check.due("it goes", x.unmount(1, 4), 1);
        Check.due("then the copy", x.unmount(1, 2), 1);
        TaskTrees y = sharing(1);
        y.mount(0, 2, 1, true);
        y.share(0, false);
        Check.due("private by now: alone", y.unmount(0, 2), 1);
        Check.due("the other stays", y.at(1, 2), 3020);
        y.share(0, true);
        Check.due("with another number by now", y.unmount(1, 2), 1);
    }

    private static void unmountAnswers() {
        Check.sentence("UNMOUNTED: how many mounts are no more; NONE");
        TaskTrees x = new TaskTrees();
        x.fork(0, true, true);
        x.fork(1, false, false);
        x.mount(0, 2, 1, false);
        x.mount(1, 2, 1, false);
        x.exit(2);
        Check.due("a zombie", x.unmount(2, 2), NONE);
        x.reap(1);
        Check.due("gone", x.unmount(2, 2), NONE);
        int[] never = {-1, 3, 150, LEAST, MOST};
        for (int t : never) {
            Check.due("unmount by " + t, x.unmount(t, 2), NONE);
        }
        Check.due("all are there", x.count(6), 4);
        Check.due("in task 1's view", x.unmount(1, 2), 1);
        Check.due("it has no more", x.unmount(1, 2), NONE);
        Check.due("task 0's is there", x.unmount(0, 2), 1);
    }

    private static void newViewCopies() {
        Check.sentence("A NEW VIEW has copies of all mounts of another one, with the same peer "
                + "numbers");
        TaskTrees x = new TaskTrees();
        x.mount(0, 15, 3, true);
        x.mount(0, 15, 4, false);
        x.mount(0, 2, 5, true);
        x.share(0, true);
        x.fork(0, false, true);
        Check.due("all four", x.count(6), 8);
        int[][] due = {{1, -1, 0, 0, 3}, {1, 4, 14, 3, 1}, {1, 5, 0, 4, 0}, {1, 4, 1, 5, 2}};
        for (int m = 0; m < 4; m++) {
            for (int what = 0; what < 5; what++) {
                Check.due("mounted(" + (m + 4) + ", " + what + ")", x.mounted(m + 4, what),
                        due[m][what]);
            }
        }
        Check.due("on the copy and on its peer", x.unmount(1, 15), 2);
        TaskTrees y = new TaskTrees();
        y.fork(0, false, true);
        Check.due("a root alone", y.count(6), 2);
        y.mount(0, 2, 1, false);
        y.fork(1, false, true);
        Check.due("of its own view, not of others", y.count(6), 4);
    }

    /** The copy of a copy: what the first view's mounts were copied to does not matter then. */
    private static void newViewOfACopy() {
        Check.sentence("A NEW VIEW has copies of all mounts of another one");
        TaskTrees x = new TaskTrees();
        x.mount(0, 2, 1, false);
        x.fork(0, false, true);
        x.unmount(1, 2);
        x.fork(1, false, true);
        Check.due("its root has the free number", x.mounted(3, 0), 2);
        Check.due("it is in none", x.mounted(3, 1), -1);
        Check.due("nothing is in the copy", x.at(1, 2), 2001);
        Check.due("nor in the copy of it", x.at(2, 2), 3001);
        Check.due("the first view has its mount", x.at(0, 2), 1020);
        Check.due("a root is not unmounted", x.unmount(2, 1), NONE);
        Check.due("four in all", x.count(6), 4);
    }

    private static void newViewByNumbers() {
        Check.sentence("by the numbers of these, each gets the least one that is free");
        TaskTrees x = new TaskTrees();
        for (int i = 1; i <= 6; i++) {
            x.mount(0, 8 + i, i, false);
        }
        x.unmount(0, 9);
        x.unmount(0, 12);
        x.fork(0, false, true);
        int[] numbers = {1, 4, 7, 8, 9};
        int[] volumes = {0, 2, 3, 5, 6};
        for (int i = 0; i < 5; i++) {
            Check.due("view of " + numbers[i], x.mounted(numbers[i], 0), 1);
            Check.due("volume of " + numbers[i], x.mounted(numbers[i], 3), volumes[i]);
            Check.due("in", x.mounted(numbers[i], 1), i == 0 ? -1 : 1);
        }
        Check.due("its root", x.at(1, 1), 1000);
        x.unmount(0, 10);
        Check.due("on the one in row 7, in row 2", x.mount(1, 22, 9, false), 2);
        x.fork(1, false, true);
        Check.due("the copy of the root", x.mounted(10, 1), -1);
        Check.due("the copy of the one on another", x.mounted(11, 1), 13);
        Check.due("its path", x.at(2, 22), 11180);
    }

    private static void newViewIsFull() {
        Check.sentence("-2 FULL (no room: tasks, spaces, groups, numbers, views, mounts)");
        for (int mounts = 39; mounts <= 41; mounts++) {
            TaskTrees x = new TaskTrees();
            while (x.count(6) < mounts) {
                x.mount(0, 2, 1, false);
            }
            Check.due("copies of " + mounts, x.fork(0, false, true), mounts <= 40 ? 1 : FULL);
            Check.due("then", x.count(6), mounts <= 40 ? 2 * mounts : mounts);
            Check.due("views", x.count(5), mounts <= 40 ? 2 : 1);
            Check.due("without a new view", x.fork(0, true, false), mounts <= 40 ? 2 : 1);
        }
        for (int mounts = 78; mounts <= 80; mounts++) {
            TaskTrees x = new TaskTrees();
            x.fork(0, false, true);
            while (x.count(6) < mounts) {
                x.mount(0, 2, 1, false);
            }
            Check.due("a root more than " + mounts, x.fork(1, true, true), mounts < 80 ? 2 : FULL);
            Check.due("spaces", x.count(3), mounts < 80 ? 2 : 1);
            Check.due("far more", x.fork(0, false, true), FULL);
        }
    }

    private static void atAnswers() {
        Check.sentence("The place of a path in a live task's view: 1000 times the mount, 20 "
                + "times its volume, and the directory, together; NONE.");
        TaskTrees x = new TaskTrees();
        x.fork(0, true, true);
        x.fork(1, false, false);
        while (x.count(6) < 79) {
            x.mount(1, 3, 4, false);
        }
        x.mount(1, 3, 9, false);
        Check.due("the most there is", x.at(2, 31), 79194);
        Check.due("a step before", x.at(2, 15), 79186);
        Check.due("a step beyond", x.at(2, 63), NONE);
        Check.due("the least there is", x.at(0, 1), 0);
        Check.due("another view", x.at(0, 3), 2);
        x.exit(2);
        Check.due("a zombie", x.at(2, 1), NONE);
        x.reap(1);
        Check.due("gone", x.at(2, 1), NONE);
        int[] never = {-1, 3, 150, LEAST, MOST};
        for (int t : never) {
            Check.due("at of " + t, x.at(t, 1), NONE);
        }
    }

    private static void shareAnswers() {
        Check.sentence("A view's root mount gets a new peer number (shared), or is private: what "
                + "it was. IndexOutOfBoundsException.");
        TaskTrees x = new TaskTrees();
        x.fork(0, false, true);
        int[] wrong = {-1, 2, 9, 10, LEAST, MOST};
        for (int view : wrong) {
            Check.index("view " + view, () -> x.share(view, true));
            Check.index("view " + view + ", private", () -> x.share(view, false));
        }
        Check.due("private at first", x.share(1, true), 0);
        Check.due("no number was used", x.mounted(1, 4), 1);
        Check.due("view 0 is private", x.share(0, false), 0);
        Check.due("and shared then", x.share(0, true), 0);
        Check.due("a new number", x.mounted(0, 4), 2);
        Check.due("a new one though it has one", x.share(1, true), 1);
        Check.due("that is", x.mounted(1, 4), 3);
        Check.due("private", x.share(1, false), 3);
        Check.due("that is 0", x.mounted(1, 4), 0);
        Check.due("private already", x.share(1, false), 0);
        Check.due("the other's stays", x.mounted(0, 4), 2);
    }

    private static void mountedAnswers() {
        Check.sentence("Of a mount that there is: what = 0 its view, 1 the mount in which it is "
                + "(-1), 2 the directory there (0 for a root), 3 its volume, 4 its peer number.");
        TaskTrees x = new TaskTrees();
        x.mount(0, 15, 9, true);
        int[] root = {0, -1, 0, 0, 0};
        int[] other = {0, 0, 14, 9, 1};
        int[] none = {-1, 2, 79, 80, LEAST, MOST};
        for (int what = 0; what < 5; what++) {
            Check.due("a root, " + what, x.mounted(0, what), root[what]);
            Check.due("another, " + what, x.mounted(1, what), other[what]);
            for (int m : none) {
                Check.due("mounted(" + m + ", " + what + ")", x.mounted(m, what), NONE);
            }
        }
        int[] wrong = {-1, 5, LEAST, MOST};
        for (int what : wrong) {
            Check.index("what " + what, () -> x.mounted(0, what));
            Check.index("what " + what + " of none", () -> x.mounted(2, what));
            Check.index("what " + what + " of -1", () -> x.mounted(-1, what));
        }
        x.unmount(0, 15);
        for (int what = 0; what < 5; what++) {
            Check.due("one that was, " + what, x.mounted(1, what), NONE);
        }
    }
}
