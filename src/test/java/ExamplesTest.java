/** The three examples of the document. */
public final class ExamplesTest {
    public static void main(String[] args) {
        oneRegisterForTwoVariables();
        loopThatIsRunUntilItEnds();
        planMustBeMadeFirst();
        Check.end("ExamplesTest");
    }

    private static void oneRegisterForTwoVariables() {
        SpillPlanner x = new SpillPlanner();
        Check.gives("append(0, 0, 0, 5, 0)", 1, () -> x.append(0, 0, 0, 5, 0));
        Check.gives("append(0, 0, 1, 7, 0)", 2, () -> x.append(0, 0, 1, 7, 0));
        Check.gives("append(0, 4, 2, 0, 1)", 3, () -> x.append(0, 4, 2, 0, 1));
        Check.gives("setEnd(0, 2, 2, 0, 0)", 2, () -> x.setEnd(0, 2, 2, 0, 0));
        Check.gives("conflicts(0)", 2, () -> x.conflicts(0));
        Check.gives("run(10)", 35, () -> x.run(10));
        Check.gives("plan(1, true)", 0, () -> x.plan(1, true));
        Check.gives("home(0, 0)", 2, () -> x.home(0, 0));
        Check.gives("runPlanned(10)", 35, () -> x.runPlanned(10));
        Check.gives("executed(3)", 1, () -> x.executed(3));
    }

    private static void loopThatIsRunUntilItEnds() {
        SpillPlanner x = new SpillPlanner();
        Check.gives("clear(2)", 1, () -> x.clear(2));
        Check.gives("setInitial(0, 3)", 0, () -> x.setInitial(0, 3));
        Check.gives("append(0, 0, 1, 1, 0)", 1, () -> x.append(0, 0, 1, 1, 0));
        Check.gives("append(0, 3, 0, 0, 1)", 2, () -> x.append(0, 3, 0, 0, 1));
        Check.gives("setEnd(0, 1, 0, 0, 1)", 2, () -> x.setEnd(0, 1, 0, 0, 1));
        Check.gives("setEnd(1, 2, 0, 0, 0)", 2, () -> x.setEnd(1, 2, 0, 0, 0));
        Check.gives("loops()", 1, x::loops);
        Check.gives("loop(0, 1)", 1, () -> x.loop(0, 1));
        Check.gives("run(100)", 0, () -> x.run(100));
        Check.gives("visits(0)", 3, () -> x.visits(0));
    }

    private static void planMustBeMadeFirst() {
        SpillPlanner x = new SpillPlanner();
        Check.gives("run(1)", 0, () -> x.run(1));
        Check.refuses("runPlanned(1)", IllegalStateException.class, () -> x.runPlanned(1));
        Check.gives("plan(1, false)", 0, () -> x.plan(1, false));
        Check.gives("runPlanned(1)", 0, () -> x.runPlanned(1));
    }
}
