/** Promises 22 to 26: mounts. */
public final class MountsTest {
    public static void main(String[] args) {
        mountAnswers();
        mountStacks();
        mountOnPeers();
        mountIsFull();
        unmountAnswers();
        unmountOnPeers();
        atWalks();
        shareChanges();
        mountedTells();
        newViewCopies();
        newViewCopiesByNumbers();
        Check.end();
    }

    private static void mountAnswers() {
        TaskTrees x = new TaskTrees();
        x.fork(0, false, true);
        Check.due("22: mount", x.mount(0, 2, 9, false), 2);
        Check.due("22: in its view alone", x.at(1, 2), 1001);
        Check.due("22: in it", x.mount(0, 5, 1, false), 3);
        Check.due("22: in which", x.mounted(3, 1), 2);
        Check.due("22: directory there", x.mounted(3, 2), 2);
        x.unmount(0, 5);
        x.unmount(0, 2);
        Check.due("22: the least free number", x.mount(1, 3, 0, false), 2);
        Check.due("22: no path", x.mount(0, 0, 1, false), TaskTrees.NONE);
        Check.due("22: below 0", x.mount(0, Integer.MIN_VALUE, 1, false), TaskTrees.NONE);
        Check.due("22: nowhere to go", x.mount(0, 16, 1, false), TaskTrees.NONE);
        Check.due("22: no task", x.mount(2, 1, 1, false), TaskTrees.NONE);
        Check.due("22: task below 0", x.mount(-1, 1, 1, false), TaskTrees.NONE);
        Check.argument("22: volume 10", () -> x.mount(0, 1, 10, false));
        Check.argument("22: volume -1", () -> x.mount(0, 1, -1, false));
        Check.argument("22: ahead of NONE", () -> x.mount(9, 0, 10, false));
        x.exit(1);
        Check.due("22: not live", x.mount(1, 1, 1, false), TaskTrees.NONE);
        Check.due("22: mounts", x.count(6), 3);
    }

    private static void mountStacks() {
        TaskTrees x = new TaskTrees();
        Check.due("22: on the root", x.mount(0, 1, 3, false), 1);
        Check.due("22: one on the other", x.mount(0, 1, 4, false), 2);
        Check.due("22: in which", x.mounted(2, 1), 1);
        Check.due("22: on top", x.at(0, 1), 2080);
        Check.due("22: a leaf", x.mount(0, 15, 5, false), 3);
        Check.due("22: beyond the leaf", x.at(0, 30), 3101);
    }

    private static void mountOnPeers() {
        TaskTrees x = new TaskTrees();
        x.share(0, true);
        x.fork(0, false, true);
        x.fork(0, false, true);
        x.share(1, false);
        x.mount(1, 2, 8, false);
        x.share(1, true);
        Check.due("22: this one first", x.mount(2, 3, 1, true), 4);
        Check.due("22: then the others", x.at(0, 3), 5020);
        Check.due("22: not a private one", x.at(1, 3), 1002);
        Check.due("22: one new peer number", x.mounted(4, 4), 3);
        Check.due("22: all the same one", x.mounted(5, 4), 3);
        Check.due("22: their views", x.mounted(5, 0), 0);
        Check.due("22: on a peer, private", x.mount(0, 6, 2, false), 6);
        Check.due("22: on the other", x.at(2, 6), 7040);
        Check.due("22: private", x.mounted(7, 4), 0);
        x.unmount(0, 6);
        Check.due("22: of the free numbers", x.mount(2, 6, 2, true), 6);
        Check.due("22: next peer number", x.mounted(7, 4), 4);

        TaskTrees y = new TaskTrees();
        y.fork(0, false, true);
        y.mount(1, 2, 5, false);
        y.share(0, true);
        y.fork(0, false, true);
        y.fork(1, false, false);
        y.share(0, false);
        y.mount(2, 2, 6, false);
        Check.due("22: nothing on another's", y.at(0, 2), 1);

        TaskTrees z = new TaskTrees();
        z.mount(0, 2, 5, false);
        z.share(0, true);
        z.fork(0, false, true);
        z.unmount(1, 2);
        Check.due("22: both are gone", z.count(6), 2);
        z.share(0, false);
        z.mount(0, 2, 5, false);
        z.share(0, true);
        z.fork(0, false, true);
        z.fork(0, false, true);
        Check.due("22: copies", z.count(6), 7);
        z.share(0, false);
        z.unmount(0, 2);
        z.share(0, true);
        z.unmount(2, 2);
        z.mount(3, 2, 7, true);
        Check.due("22: on a copy", z.count(6), 6);
    }

    private static void mountIsFull() {
        TaskTrees x = new TaskTrees();
        x.share(0, true);
        x.fork(0, false, true);
        x.share(1, true);
        for (int i = 0; i < 77; i++) {
            x.mount(1, 1, 1, false);
        }
        x.share(0, true);
        x.unmount(1, 1);
        x.unmount(1, 1);
        x.unmount(1, 1);
        Check.due("22: 76 mounts", x.count(6), 76);
        x.fork(0, false, true);
        x.fork(0, false, true);
        Check.due("22: 78 mounts", x.count(6), 78);
        Check.due("22: no room for three", x.mount(0, 2, 1, true), TaskTrees.FULL);
        Check.due("22: nor from another view", x.mount(2, 2, 1, true), TaskTrees.FULL);
        Check.due("22: nothing is made", x.count(6), 78);
        Check.due("22: nowhere", x.at(2, 2), 76001);
        x.unmount(1, 1);
        Check.due("22: room for three", x.mount(0, 2, 1, true), 75);
        Check.due("22: no peer number was lost", x.mounted(75, 4), 4);
        Check.due("22: all", x.count(6), 80);
        Check.due("22: none is free", x.mount(0, 3, 1, false), TaskTrees.FULL);
        Check.due("22: the last one", x.mounted(79, 3), 1);
    }

    private static void unmountAnswers() {
        TaskTrees x = new TaskTrees();
        x.mount(0, 2, 1, false);
        x.mount(0, 4, 2, false);
        Check.due("23: busy", x.unmount(0, 2), TaskTrees.BUSY);
        Check.due("23: not in directory 0", x.unmount(0, 5), TaskTrees.NONE);
        Check.due("23: a root", x.unmount(0, 1), TaskTrees.NONE);
        Check.due("23: no path", x.unmount(0, 0), TaskTrees.NONE);
        Check.due("23: below 0", x.unmount(0, -2), TaskTrees.NONE);
        Check.due("23: nowhere to go", x.unmount(0, 1 << 30), TaskTrees.NONE);
        Check.due("23: no task", x.unmount(1, 2), TaskTrees.NONE);
        Check.due("23: nothing changed", x.count(6), 3);
        Check.due("23: unmount", x.unmount(0, 4), 1);
        Check.due("23: not busy any more", x.unmount(0, 2), 1);
        Check.due("23: it is no more", x.mounted(1, 0), TaskTrees.NONE);
        Check.due("23: mounts", x.count(6), 1);
        Check.due("23: what was below", x.at(0, 2), 1);
        x.mount(0, 2, 1, false);
        x.mount(0, 4, 2, false);
        x.mount(0, 5, 2, false);
        x.unmount(0, 4);
        Check.due("23: still busy", x.unmount(0, 2), TaskTrees.BUSY);
        x.unmount(0, 5);
        Check.due("23: busy no more", x.unmount(0, 2), 1);
        x.mount(0, 1, 1, false);
        x.mount(0, 1, 2, false);
        Check.due("23: the one on top", x.unmount(0, 1), 1);
        Check.due("23: then the other", x.at(0, 1), 1020);
        Check.due("23: that one", x.unmount(0, 1), 1);
        Check.due("23: the root stays", x.unmount(0, 1), TaskTrees.NONE);
    }

    private static void unmountOnPeers() {
        TaskTrees x = new TaskTrees();
        x.share(0, true);
        for (int i = 0; i < 4; i++) {
            x.fork(0, false, true);
        }
        x.mount(0, 2, 1, false);
        Check.due("23: five of them", x.count(6), 10);
        x.mount(1, 5, 3, false);
        int was = x.share(2, false);
        Check.due("23: they had the same number", was, 1);
        x.unmount(3, 2);
        Check.due("23: busy and private ones stay", x.count(6), 8);
        Check.due("23: the busy one", x.at(1, 2), 6020);
        Check.due("23: the private one's", x.at(2, 2), 7020);
        x.mount(3, 2, 2, false);
        Check.due("23: on the others", x.at(4, 2) % 1000, 40);
        x.unmount(1, 5);
        Check.due("23: another volume stays", x.unmount(1, 2), 1);
        Check.due("23: there it is", x.at(3, 2) % 1000, 40);
        Check.due("23: three of the same", x.unmount(4, 2), 3);
    }

    private static void atWalks() {
        TaskTrees x = new TaskTrees();
        Check.due("24: the root", x.at(0, 1), 0);
        for (int p = 2; p <= 15; p++) {
            Check.due("24: directory of " + p, x.at(0, p), p - 1);
        }
        Check.due("24: nowhere to go", x.at(0, 16), TaskTrees.NONE);
        Check.due("24: nor there", x.at(0, 31), TaskTrees.NONE);
        Check.due("24: the longest", x.at(0, Integer.MAX_VALUE), TaskTrees.NONE);
        Check.due("24: 0", x.at(0, 0), TaskTrees.NONE);
        Check.due("24: below 0", x.at(0, -1), TaskTrees.NONE);
        Check.due("24: least", x.at(0, Integer.MIN_VALUE), TaskTrees.NONE);
        Check.due("24: no task", x.at(1, 1), TaskTrees.NONE);
        Check.due("24: task below 0", x.at(-1, 1), TaskTrees.NONE);
        x.mount(0, 15, 9, false);
        Check.due("24: in its place", x.at(0, 15), 1180);
        Check.due("24: within it", x.at(0, 30), 1181);
        Check.due("24: far within it", x.at(0, 15 * 8 + 7), 1194);
        Check.due("24: too far", x.at(0, 15 * 16 + 15), TaskTrees.NONE);
        x.mount(0, 15, 8, false);
        Check.due("24: and on", x.at(0, 31), 2162);
        x.mount(0, 1, 7, false);
        Check.due("24: from the beginning", x.at(0, 15), 3154);
        x.fork(0, false, true);
        x.exit(1);
        Check.due("24: not live", x.at(1, 1), TaskTrees.NONE);

        TaskTrees y = new TaskTrees();
        int p = 1;
        for (int i = 0; i < 9; i++) {
            p = 8 * p + 7;
            Check.due("24: a long way", y.mount(0, p, 1, false), i + 1);
        }
        Check.due("24: 27 steps", y.at(0, p), 9020);
        Check.due("24: 30 steps", y.at(0, 8 * p + 7), 9034);
    }

    private static void shareChanges() {
        TaskTrees x = new TaskTrees();
        Check.due("25: it was private", x.share(0, false), 0);
        Check.due("25: private still", x.share(0, true), 0);
        Check.due("25: a number", x.mounted(0, 4), 1);
        Check.due("25: a new number", x.share(0, true), 1);
        Check.due("25: private again", x.share(0, false), 2);
        Check.due("25: is", x.mounted(0, 4), 0);
        x.share(0, true);
        Check.due("25: as they are needed", x.mounted(0, 4), 3);
        Check.index("25: no view", () -> x.share(1, true));
        Check.index("25: below 0", () -> x.share(-1, false));
        x.fork(0, false, true);
        Check.due("25: the copy's", x.share(1, true), 3);
        Check.due("25: its own alone", x.mounted(0, 4), 3);
        x.exit(1);
        Check.due("25: a view that nobody has", x.share(1, false), 4);
        x.mount(0, 1, 2, false);
        Check.due("25: the root, not what is on it", x.share(0, false), 3);
    }

    private static void mountedTells() {
        TaskTrees x = new TaskTrees();
        x.fork(0, false, true);
        x.mount(1, 6, 4, true);
        int[] told = {1, 1, 5, 4, 1};
        int[] root = {1, -1, 0, 0, 0};
        for (int what = 0; what < 5; what++) {
            Check.due("26: mounted(2, " + what + ")", x.mounted(2, what), told[what]);
            Check.due("26: mounted(1, " + what + ")", x.mounted(1, what), root[what]);
            Check.due("26: no mount", x.mounted(3, what), TaskTrees.NONE);
            Check.due("26: 80", x.mounted(80, what), TaskTrees.NONE);
            Check.due("26: below 0", x.mounted(-1, what), TaskTrees.NONE);
        }
        Check.index("26: what 5", () -> x.mounted(0, 5));
        Check.index("26: what -1", () -> x.mounted(0, -1));
        Check.index("26: ahead of NONE", () -> x.mounted(99, 5));
        x.unmount(1, 6);
        Check.due("26: no more", x.mounted(2, 3), TaskTrees.NONE);
        x.fork(1, false, true);
        Check.due("26: a root in its row", x.mounted(2, 2), 0);
        Check.due("26: of volume 0", x.mounted(2, 3), 0);
        Check.due("26: private", x.mounted(2, 4), 0);
    }

    private static void newViewCopies() {
        TaskTrees x = new TaskTrees();
        x.mount(0, 2, 1, true);
        x.mount(0, 5, 2, false);
        x.fork(0, false, true);
        Check.due("2: a copy of each", x.count(6), 6);
        Check.due("2: in place", x.at(1, 5), 5040);
        Check.due("2: its view", x.mounted(5, 0), 1);
        Check.due("2: in the copy", x.mounted(5, 1), 4);
        Check.due("2: the same peer number", x.mounted(4, 4), 1);
        Check.due("2: private", x.mounted(3, 4), 0);
        Check.due("2: its volume", x.mounted(5, 3), 2);
        Check.due("2: on both", x.mount(1, 4, 7, false), 6);
        Check.due("2: there, too", x.at(0, 4), 7140);
        x.unmount(0, 5);
        Check.due("2: of both", x.at(1, 5), 4022);
    }

    /** A mount may have a lower number than the one in which it is, or than the root. */
    private static void newViewCopiesByNumbers() {
        TaskTrees x = new TaskTrees();
        x.mount(0, 2, 1, false);
        x.mount(0, 3, 2, false);
        x.fork(0, false, true);
        x.unmount(0, 2);
        x.unmount(0, 3);
        x.unmount(1, 2);
        Check.due("2: on the higher one", x.mount(1, 6, 3, false), 1);
        Check.due("2: in", x.mounted(1, 1), 5);
        x.unmount(1, 6);
        Check.due("2: in the lower one's place", x.mount(1, 7, 3, false), 1);
        x.fork(1, false, true);
        Check.due("2: by their numbers", x.mounted(2, 3), 3);
        Check.due("2: then the root", x.mounted(4, 1), -1);
        Check.due("2: then the other", x.mounted(6, 3), 2);
        Check.due("2: in which", x.mounted(2, 1), 6);
        Check.due("2: path", x.at(2, 7), 2060);
        Check.due("2: path below", x.at(2, 6), 6041);
        Check.due("2: the copy is busy", x.unmount(2, 3), TaskTrees.BUSY);
        Check.due("2: the copy goes", x.unmount(2, 7), 1);
        Check.due("2: the other stays", x.at(1, 7), 1060);
    }
}
