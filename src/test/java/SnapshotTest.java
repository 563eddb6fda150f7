/** Promises 28 and 29: the snapshot. */
public final class SnapshotTest {
    private static final Class<IndexOutOfBoundsException> INDEX = IndexOutOfBoundsException.class;
    private static final Class<IllegalStateException> STATE = IllegalStateException.class;

    public static void main(String[] args) {
        saveAndRestore();
        latestSnapshotCounts();
        whatIsNotSaved();
        Check.end("SnapshotTest");
    }

    private static void saveAndRestore() {
        SpillPlanner x = Samples.nestedLoops();
        Check.gives("five blocks", 5, x::saveSnapshot);
        x.append(0, 0, 0, 9, 0);
        x.removeLast(2);
        x.setEnd(3, 2, 0, 0, 0);
        x.setFrequency(4, 1);
        x.setInitial(6, 99);
        Check.gives("restored", 5, x::restoreSnapshot);
        isNestedLoops(x);
        x.clear(8);
        x.setInitial(0, 5);
        Check.gives("the snapshot is kept", 5, x::restoreSnapshot);
        isNestedLoops(x);
        Check.refuses("block 5 is gone", INDEX, () -> x.block(5, 0));
        Check.gives("initial value of a", 0, () -> x.setInitial(0, 0));
    }

    private static void isNestedLoops(SpillPlanner x) {
        Check.gives("instructions of block 0", 1, () -> x.block(0, 0));
        Check.gives("instruction of block 2", 3, () -> x.instruction(2, 0, 0));
        Check.gives("end of block 3", 1, () -> x.block(3, 1));
        Check.gives("its second block", 4, () -> x.block(3, 4));
        Check.gives("frequency of block 4", 5000, () -> x.block(4, 5));
        Check.gives("initial value of g", 2, () -> x.setInitial(6, 2));
        Check.gives("loops", 2, x::loops);
        Check.gives("the result", 63, () -> x.run(100));
    }

    private static void latestSnapshotCounts() {
        SpillPlanner x = new SpillPlanner();
        Check.refuses("no snapshot", STATE, x::restoreSnapshot);
        Check.gives("first", 1, x::saveSnapshot);
        x.clear(4);
        Check.gives("second", 4, x::saveSnapshot);
        x.clear(2);
        Check.gives("the second is restored", 4, x::restoreSnapshot);
        Check.gives("block 3", 0, () -> x.block(3, 0));
    }

    private static void whatIsNotSaved() {
        SpillPlanner x = Samples.busyBehindLoop();
        x.plan(2, false);
        x.run(100);
        Texts.feed(x, "go");
        x.saveSnapshot();
        Check.gives("the plan stays at a snapshot", 2, () -> x.planned(0));
        x.runPlanned(100);
        Texts.feed(x, " 1");
        x.restoreSnapshot();
        Check.refuses("there is no plan then", STATE, () -> x.planned(0));
        Check.gives("the counts are of the latest execution", 2, () -> x.executed(1));
        Check.gives("the input is as it was fed", 0, () -> x.read(0));
    }
}
