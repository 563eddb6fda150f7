/** Promises 21 to 25: both machines, their counts, and the profile. */
public final class ExecutionTest {
    private static final Class<IndexOutOfBoundsException> INDEX = IndexOutOfBoundsException.class;
    private static final Class<IllegalArgumentException> ARGUMENT = IllegalArgumentException.class;
    private static final Class<IllegalStateException> STATE = IllegalStateException.class;
    private static final Class<ArithmeticException> ARITHMETIC = ArithmeticException.class;

    public static void main(String[] args) {
        arithmetic();
        limits();
        plannedLimits();
        countsWithoutAPlan();
        countsWithoutPromotion();
        countsWithPromotion();
        countsWithNestedLoops();
        countsAtTheEntry();
        scratchRegisters();
        scratchRegistersForget();
        recomputations();
        refusedExecutionKeepsCounts();
        countsOutliveTheProgram();
        visits();
        profile();
        Check.end("ExecutionTest");
    }

    private static void countsAre(String what, SpillPlanner x, int... due) {
        for (int i = 0; i < due.length; i++) {
            int w = i;
            Check.gives(what + ": executed(" + w + ")", due[w], () -> x.executed(w));
        }
    }

    private static void arithmetic() {
        SpillPlanner x = Texts.program("c=a+b;stop c");
        x.setInitial(0, Integer.MAX_VALUE);
        x.setInitial(1, 2);
        Check.gives("the sum wraps", Integer.MIN_VALUE + 1, () -> x.run(2));
        Texts.read(x, 0, "c=b-a;c=c-b;stop c");
        Check.gives("difference", -Integer.MAX_VALUE, () -> x.run(3));
        Texts.read(x, 0, "c=a*b;stop c");
        Check.gives("the product wraps", -2, () -> x.run(2));
        Texts.read(x, 0, "c=-999;d=c;d=d*d;stop d");
        Check.gives("constant, copy, square", 998001, () -> x.run(4));
        Texts.read(x, 0, "stop b");
        Check.gives("initial values are not changed by a run", 2, () -> x.run(1));
        SpillPlanner y = Texts.program("if a 1 2", "stop b", "stop c");
        y.setInitial(0, -5);
        y.setInitial(1, 10);
        y.setInitial(2, 20);
        Check.gives("not 0 goes first", 10, () -> y.run(2));
        y.setInitial(0, 0);
        Check.gives("0 goes second", 20, () -> y.run(2));
    }

    private static void limits() {
        SpillPlanner x = Texts.program("a=1;go 1", "b=a;stop b");
        Check.refuses("0", ARGUMENT, () -> x.run(0));
        Check.refuses("-1", ARGUMENT, () -> x.run(-1));
        Check.refuses("1001", ARGUMENT, () -> x.run(1001));
        Check.refuses("3 of 4", ARITHMETIC, () -> x.run(3));
        Check.gives("4 of 4", 1, () -> x.run(4));
        Check.gives("1000", 1, () -> x.run(1000));
        SpillPlanner endless = Texts.program("go 0");
        Check.refuses("endless", ARITHMETIC, () -> endless.run(1000));
    }

    private static void plannedLimits() {
        SpillPlanner x = Texts.program("a=1;go 1", "b=a;stop b");
        Check.refuses("0, before the plan", ARGUMENT, () -> x.runPlanned(0));
        Check.refuses("1001, before the plan", ARGUMENT, () -> x.runPlanned(1001));
        Check.refuses("without a plan", STATE, () -> x.runPlanned(1));
        x.plan(1, true);
        Check.refuses("3 of 4", ARITHMETIC, () -> x.runPlanned(3));
        Check.gives("4 of 4", 1, () -> x.runPlanned(4));
        Check.gives("1000", 1, () -> x.runPlanned(1000));
    }

    private static void countsWithoutAPlan() {
        SpillPlanner x = Samples.busyBehindLoop();
        x.plan(1, true);
        x.runPlanned(100);
        Check.gives("the result", 63, () -> x.run(100));
        countsAre("without a plan", x, 13, 0, 0, 0);
    }

    private static void countsWithoutPromotion() {
        SpillPlanner x = Samples.busyBehindLoop();
        x.plan(1, false);
        Check.gives("the result", 63, () -> x.runPlanned(100));
        countsAre("without promotion", x, 13, 4, 4, 0);
    }

    private static void countsWithPromotion() {
        SpillPlanner x = Samples.busyBehindLoop();
        x.plan(2, false);
        Check.gives("the result", 63, () -> x.runPlanned(100));
        countsAre("with promotion", x, 13, 2, 1, 0);
    }

    private static void countsWithNestedLoops() {
        SpillPlanner x = Samples.nestedLoops();
        x.plan(3, false);
        Check.gives("the result", 63, () -> x.runPlanned(100));
        countsAre("nested loops", x, 22, 6, 2, 0);
        Check.gives("visits of block 2", 3, () -> x.visits(2));
        Check.gives("the same without a plan", 63, () -> x.run(100));
    }

    private static void countsAtTheEntry() {
        SpillPlanner x = Samples.loopAtEntry();
        x.plan(2, false);
        Check.gives("the result", 63, () -> x.runPlanned(100));
        countsAre("loop at the entry", x, 9, 2, 1, 0);
    }

    private static void scratchRegisters() {
        SpillPlanner x = Samples.straight();
        x.plan(1, false);
        Check.gives("the result", 5, () -> x.runPlanned(4));
        countsAre("scratch registers", x, 4, 4, 2, 0);
    }

    /** What a scratch register holds is forgotten from block to block. */
    private static void scratchRegistersForget() {
        SpillPlanner x = Texts.program("b=a;go 1", "b=b*a;stop b");
        x.setInitial(0, 6);
        x.setFrequency(0, 1);
        x.plan(1, false);
        Check.gives("a is in memory", 1, () -> x.home(0, 0));
        Check.gives("the result", 36, () -> x.runPlanned(4));
        countsAre("two blocks", x, 4, 2, 0, 0);
        SpillPlanner y = Texts.program("b=a;b=b*a;stop b");
        y.setInitial(0, 6);
        y.plan(1, false);
        Check.gives("the result in one block", 36, () -> y.runPlanned(3));
        countsAre("one block", y, 3, 1, 0, 0);
    }

    private static void recomputations() {
        SpillPlanner x = Texts.program("a=5;b=7;c=a*a;c=c+b;c=c*a;stop c");
        x.plan(1, true);
        Check.gives("a is recomputed", 2, () -> x.home(0, 0));
        Check.gives("b is recomputed", 2, () -> x.home(1, 0));
        Check.gives("the result", 160, () -> x.runPlanned(6));
        countsAre("a twice, b once", x, 6, 0, 0, 3);
        SpillPlanner y = Texts.program("a=5;b=9;b=b*b;if a 1 2", "stop a", "stop b");
        y.plan(1, true);
        Check.gives("an end uses too", 5, () -> y.runPlanned(5));
        countsAre("twice by ends", y, 5, 0, 0, 2);
    }

    private static void refusedExecutionKeepsCounts() {
        SpillPlanner x = Samples.busyBehindLoop();
        x.plan(1, false);
        x.runPlanned(100);
        Check.refuses("too short", ARITHMETIC, () -> x.run(12));
        countsAre("after a refused run", x, 13, 4, 4, 0);
        Check.refuses("too short with the plan", ARITHMETIC, () -> x.runPlanned(12));
        countsAre("after a refused planned run", x, 13, 4, 4, 0);
        Check.gives("visits(1)", 3, () -> x.visits(1));
        Check.refuses("executed(4)", ARGUMENT, () -> x.executed(4));
        Check.refuses("executed(-1)", ARGUMENT, () -> x.executed(-1));
    }

    private static void countsOutliveTheProgram() {
        SpillPlanner x = Samples.busyBehindLoop();
        x.plan(1, false);
        x.runPlanned(100);
        x.clear(8);
        countsAre("after clear", x, 13, 4, 4, 0);
        Check.gives("visits(1) after clear", 3, () -> x.visits(1));
        Check.gives("visits(7) after clear", 0, () -> x.visits(7));
        x.run(1);
        Check.gives("visits(1) after another run", 0, () -> x.visits(1));
    }

    private static void visits() {
        SpillPlanner x = Samples.busyBehindLoop();
        x.run(100);
        Check.gives("visits(0)", 1, () -> x.visits(0));
        Check.gives("visits(1)", 3, () -> x.visits(1));
        Check.gives("visits(2)", 1, () -> x.visits(2));
        Check.refuses("visits(3)", INDEX, () -> x.visits(3));
        Check.refuses("visits(-1)", INDEX, () -> x.visits(-1));
    }

    private static void profile() {
        SpillPlanner x = Texts.program("go 1", "a=a-b;if a 1 2", "stop a", "stop b");
        Check.gives("nothing was executed, nothing changes", 0, x::profile);
        x.setFrequency(3, 50);
        x.setInitial(0, 4);
        x.setInitial(1, 1);
        x.run(100);
        Check.gives("blocks 1 and 3 change", 2, x::profile);
        Check.gives("block 0", 1, () -> x.block(0, 5));
        Check.gives("block 1", 4, () -> x.block(1, 5));
        Check.gives("block 3 was not executed", 1, () -> x.block(3, 5));
        Check.refuses("a run that does not end", ARITHMETIC, () -> x.run(3));
        Check.gives("does not count", 0, x::profile);
        Check.gives("costs go by the new frequencies", 3 * (1 + 4 * 3 + 1), () -> x.cost(0, false));
    }
}
