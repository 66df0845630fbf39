/** The example in README.md, with the answers that are written there. */
public final class ReadmeTest {
    public static void main(String[] args) {
        TaskTrees trees = new TaskTrees();
        Check.due("fork(0, true, false)", trees.fork(0, true, false), 1);
        Check.due("fork(1, false, false)", trees.fork(1, false, false), 2);
        Check.due("number(2, 1)", trees.number(2, 1), 2);
        Check.due("group(0)", trees.group(0), 1);
        Check.due("set(1, 0, 500)", trees.set(1, 0, 500), 1000000);
        Check.due("move(2, 1)", trees.move(2, 1), 1);
        Check.due("charge(2, 300)", trees.charge(2, 300), 300);
        Check.due("ticks(3)", trees.ticks(3), 2);
        Check.due("mount(2, 2, 1, false)", trees.mount(2, 2, 1, false), 1);
        Check.due("at(2, 4)", trees.at(2, 4), 1021);
        Check.due("charge(2, 300)", trees.charge(2, 300), TaskTrees.KILLED);
        Check.due("reap(1)", trees.reap(1), 2);
        Check.end();
    }
}
