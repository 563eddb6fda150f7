/** Promises 10 to 15: liveness, conflicts, pressure, loops and costs. */
public final class AnalysisTest {
    private static final Class<IndexOutOfBoundsException> INDEX = IndexOutOfBoundsException.class;
    private static final Class<IllegalArgumentException> ARGUMENT = IllegalArgumentException.class;
    private static final Class<UnsupportedOperationException> UNSUPPORTED =
        UnsupportedOperationException.class;

    public static void main(String[] args) {
        liveInABlock();
        liveAroundALoop();
        liveInUnreachableBlocks();
        liveAfterAChange();
        conflicts();
        conflictsAtTheEntry();
        conflictsWithADeadDefinition();
        pressure();
        nestedLoops();
        mergedLoops();
        noLoops();
        loopRefuses();
        memoryCosts();
        recomputingCosts();
        Check.end("AnalysisTest");
    }

    private static void liveInABlock() {
        SpillPlanner x = Texts.program("c=a+b;a=c*c;stop a");
        Check.gives("before the first", 0b011, () -> x.live(0, 0));
        Check.gives("before the second", 0b100, () -> x.live(0, 1));
        Check.gives("before the end", 0b001, () -> x.live(0, 2));
        Check.refuses("behind the end", INDEX, () -> x.live(0, 3));
        Check.refuses("point -1", INDEX, () -> x.live(0, -1));
        Check.refuses("block 1", INDEX, () -> x.live(1, 0));
        Check.refuses("block -1", INDEX, () -> x.live(-1, 0));
    }

    private static void liveAroundALoop() {
        SpillPlanner one = Texts.program("d=b;if c 0 0");
        Check.gives("b is used in the next round", 0b0110, () -> one.live(0, 1));
        SpillPlanner x = Texts.program("go 1", "if l 2 3", "c=c+a;go 1", "stop b");
        Check.gives("at the entry", 0b100000000111, () -> x.live(0, 0));
        Check.gives("behind the sum", 0b100000000111, () -> x.live(2, 1));
        Check.gives("after the loop", 0b000000000010, () -> x.live(3, 0));
    }

    private static void liveInUnreachableBlocks() {
        SpillPlanner x = Texts.program("stop a", "b=c;go 2", "stop b");
        Check.gives("unreachable", 0b100, () -> x.live(1, 0));
        Check.gives("unreachable, later", 0b010, () -> x.live(1, 1));
    }

    private static void liveAfterAChange() {
        SpillPlanner x = Texts.program("stop a");
        Check.gives("a", 1, () -> x.live(0, 0));
        x.setEnd(0, 2, 3, 0, 0);
        Check.gives("d", 8, () -> x.live(0, 0));
        x.append(0, 1, 3, 1, 0);
        Check.gives("b", 2, () -> x.live(0, 0));
        x.removeLast(0);
        Check.gives("d again", 8, () -> x.live(0, 0));
    }

    private static void conflicts() {
        SpillPlanner x = Texts.program("a=1;b=2;c=a+b;stop c");
        Check.gives("a", 0b010, () -> x.conflicts(0));
        Check.gives("b", 0b001, () -> x.conflicts(1));
        Check.gives("c", 0, () -> x.conflicts(2));
        Check.gives("an unused variable", 0, () -> x.conflicts(11));
        Check.refuses("12", ARGUMENT, () -> x.conflicts(12));
        Check.refuses("-1", ARGUMENT, () -> x.conflicts(-1));
        SpillPlanner copy = Texts.program("a=1;b=a;c=a+b;stop c");
        Check.gives("a copy conflicts too", 0b001, () -> copy.conflicts(1));
    }

    private static void conflictsAtTheEntry() {
        SpillPlanner x = Texts.program("a=a+b;a=a+c;stop a", "d=1;if d 1 2", "stop e");
        Check.gives("a", 0b00110, () -> x.conflicts(0));
        Check.gives("b", 0b00101, () -> x.conflicts(1));
        Check.gives("e is live after the unreachable d", 0b01000, () -> x.conflicts(4));
    }

    private static void conflictsWithADeadDefinition() {
        SpillPlanner x = Texts.program("b=1;stop a");
        Check.gives("a", 0b10, () -> x.conflicts(0));
        Check.gives("b", 0b01, () -> x.conflicts(1));
    }

    private static void pressure() {
        SpillPlanner go = Texts.program("go 0");
        Check.gives("nothing is live", 0, go::pressure);
        SpillPlanner x = Texts.program("a=1;b=2;c=a+b;stop c");
        Check.gives("two", 2, x::pressure);
        SpillPlanner unreachable = Texts.program("stop a", "a=b+c;a=a+d;a=a+e;stop a");
        Check.gives("unreachable blocks count", 4, unreachable::pressure);
        SpillPlanner dead = Texts.program("b=1;c=2;stop a");
        Check.gives("dead definitions are not live", 1, dead::pressure);
    }

    private static void loopIs(SpillPlanner x, int loop, int header, int blocks, int around) {
        Check.gives("header of " + loop, header, () -> x.loop(loop, 0));
        Check.gives("blocks of " + loop, blocks, () -> x.loop(loop, 1));
        Check.gives("loops around " + loop, around, () -> x.loop(loop, 2));
    }

    private static void nestedLoops() {
        SpillPlanner x = Texts.program("go 4", "if a 1 2", "if b 3 6", "go 4", "if c 5 7", "go 1",
            "go 4", "stop a");
        Check.gives("two loops", 2, x::loops);
        loopIs(x, 0, 1, 0b00000010, 1);
        loopIs(x, 1, 4, 0b01111110, 0);
        SpillPlanner deep = Texts.program("go 1", "go 2", "if a 2 3", "if a 1 4", "if a 0 5",
            "stop a");
        Check.gives("three loops", 3, deep::loops);
        loopIs(deep, 0, 0, 0b011111, 0);
        loopIs(deep, 1, 1, 0b001110, 1);
        loopIs(deep, 2, 2, 0b000100, 2);
    }

    private static void mergedLoops() {
        SpillPlanner x = Texts.program("if a 1 3", "if b 0 2", "go 0", "stop a", "go 1", "go 5");
        Check.gives("one header, one loop", 1, x::loops);
        loopIs(x, 0, 0, 0b000111, 0);
        SpillPlanner self = Texts.program("go 1", "if a 1 2", "stop a");
        loopIs(self, 0, 1, 0b010, 0);
    }

    private static void noLoops() {
        SpillPlanner x = Texts.program("if a 1 2", "go 2", "go 1", "go 3");
        Check.gives("a cycle with two ways in, and an unreachable one", 0, x::loops);
        SpillPlanner straight = Texts.program("go 1", "stop a");
        Check.gives("no cycle", 0, straight::loops);
    }

    private static void loopRefuses() {
        SpillPlanner x = Texts.program("if a 0 1", "stop a");
        Check.refuses("loop 1, before what", INDEX, () -> x.loop(1, 9));
        Check.refuses("loop -1", INDEX, () -> x.loop(-1, 0));
        Check.refuses("what 3", ARGUMENT, () -> x.loop(0, 3));
        Check.refuses("what -1", ARGUMENT, () -> x.loop(0, -1));
        x.setEnd(0, 0, 0, 1, 0);
        Check.refuses("loop 0 is gone", INDEX, () -> x.loop(0, 0));
    }

    private static void memoryCosts() {
        SpillPlanner x = Texts.program("b=a*a;c=a+b;go 1", "if c 1 2", "stop c", "d=a;go 3");
        x.setFrequency(0, 2);
        x.setFrequency(1, 10);
        x.setFrequency(2, 100);
        x.setFrequency(3, 1000);
        Check.gives("a: entry, two uses, one unreachable", 3 * (2 + 4 + 1000), () -> x.cost(0, false));
        Check.gives("b", 3 * (2 + 2), () -> x.cost(1, false));
        Check.gives("c: uses by ends", 3 * (2 + 10 + 100), () -> x.cost(2, false));
        Check.gives("d is defined only", 3000, () -> x.cost(3, false));
        Check.gives("e is not used", 0, () -> x.cost(4, false));
        Check.refuses("12", ARGUMENT, () -> x.cost(12, false));
        Check.refuses("-1, before recomputing", ARGUMENT, () -> x.cost(-1, true));
    }

    private static void recomputingCosts() {
        SpillPlanner x = Texts.program("a=5;b=a*a;c=1;c=2;d=b;go 1", "e=7;if e 1 2", "f=3;stop a");
        x.setFrequency(0, 2);
        x.setFrequency(1, 10);
        x.setFrequency(2, 100);
        Check.gives("a", 102, () -> x.cost(0, true));
        Check.refuses("b is no constant", UNSUPPORTED, () -> x.cost(1, true));
        Check.refuses("c is defined twice", UNSUPPORTED, () -> x.cost(2, true));
        Check.refuses("d is a copy", UNSUPPORTED, () -> x.cost(3, true));
        Check.gives("e", 10, () -> x.cost(4, true));
        Check.gives("f has no uses", 0, () -> x.cost(5, true));
        Check.refuses("g is not used", UNSUPPORTED, () -> x.cost(6, true));
        SpillPlanner entry = Texts.program("b=a;a=5;stop a");
        Check.refuses("a is defined at the entry too", UNSUPPORTED, () -> entry.cost(0, true));
    }
}
