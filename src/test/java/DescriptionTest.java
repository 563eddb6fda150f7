/** The description's sentences on program, uses, liveness, loops, conflicts and costs. */
public final class DescriptionTest {
    private static final String UNSUPPORTED = "throws UnsupportedOperationException";
    private static final String INDEX = "throws IndexOutOfBoundsException";

    public static void main(String[] args) {
        wrapAround();
        ends();
        usesOnTheRight();
        usesByEnds();
        entryOfTheProgram();
        liveness();
        livenessAlongPaths();
        livenessOfUnreachableBlocks();
        emptyAndFullPoints();
        loopHeaders();
        loopBlocks();
        loopsWithin();
        noLoopAndAllLoops();
        conflicts();
        conflictsAtTheBeginning();
        memoryCosts();
        recomputingCosts();
        programAsItIsNow();
        eightBlocks();
        Check.end("DescriptionTest");
    }

    /** Both machines, the planned one with so few registers that memory is used, and with all. */
    private static void result(String text, int a, int b, int want) {
        SpillPlanner x = Texts.program(text);
        x.setInitial(0, a);
        x.setInitial(1, b);
        Check.gives(text + " of " + a + " and " + b, want, () -> x.run(10));
        x.plan(1, true);
        Check.gives(text + " planned with 1", want, () -> x.runPlanned(10));
        x.plan(12, false);
        Check.gives(text + " planned with 12", want, () -> x.runPlanned(10));
    }

    private static void wrapAround() {
        int least = Integer.MIN_VALUE;
        int greatest = Integer.MAX_VALUE;
        Check.sentence("Program: the sum, wrapping around");
        result("c=a+b;stop c", greatest, 0, greatest);
        result("c=a+b;stop c", greatest, 1, least);
        result("c=a+b;stop c", least, -1, greatest);
        result("c=a+b;stop c", least, least, 0);
        result("c=a+a;stop c", greatest, 5, -2);
        Check.sentence("Program: the difference, wrapping around");
        result("c=a-b;stop c", least, 0, least);
        result("c=a-b;stop c", least, 1, greatest);
        result("c=a-b;stop c", greatest, -1, least);
        result("c=a-b;stop c", 0, least, least);
        result("c=a-a;stop c", least, 5, 0);
        Check.sentence("Program: the product, wrapping around");
        result("c=a*b;stop c", least, -1, least);
        result("c=a*b;stop c", greatest, 2, -2);
        result("c=a*b;stop c", 65536, 65536, 0);
        result("c=a*a;stop c", greatest, 5, 1);
        result("c=a*b;stop c", 65536, 32768, least);
        Check.sentence("Program: a constant, a variable");
        result("c=-999;stop c", 1, 2, -999);
        result("c=b;stop c", least, greatest, greatest);
    }

    private static void ends() {
        Check.sentence("Program: goes to one block if a variable is not 0 and otherwise to another one");
        int[] values = {1, -1, Integer.MIN_VALUE, Integer.MAX_VALUE, 0};
        for (int value : values) {
            SpillPlanner x = Texts.program("if a 1 2", "b=7;stop b", "b=8;stop b");
            x.setInitial(0, value);
            x.plan(1, false);
            int want = value == 0 ? 8 : 7;
            Script.due(x, "run(3) = " + want + "; runPlanned(3) = " + want);
        }
        Check.sentence("Program: execution begins with block 0");
        Script.due(Texts.program("a=4;stop a", "a=5;stop a"), "run(2) = 4; visits(0) = 1; visits(1) = 0");
    }

    private static void usesOnTheRight() {
        Check.sentence("Uses: each variable on the right side once even if it stands there twice");
        for (String text : new String[] {"b=a+a;go 0", "b=a-a;go 0", "b=a*a;go 0", "b=a;go 0"}) {
            SpillPlanner x = Texts.program(text);
            x.setFrequency(0, 10);
            Script.due(x, "cost(0, false) = 60; cost(1, false) = 30");
        }
        Script.due(Texts.program("a=5;b=a*a;b=a;b=a-b;go 0"), "cost(0, true) = 3");
        Check.sentence("Uses: two variables on the right side are used once each");
        Script.due(Texts.program("c=a-b;go 0"), "cost(0, false) = 6; cost(1, false) = 6; cost(2, false) = 3");
        Check.sentence("Uses: an instruction uses its right side and defines its target");
        Script.due(Texts.program("a=1;a=a+a;go 0"), "cost(0, false) = 9; live(0, 0) = 0; live(0, 1) = 1");
        Check.sentence("Uses: a constant uses no variable");
        Script.due(Texts.program("a=3;go 0"), "live(0, 0) = 0; cost(3, false) = 0; cost(0, false) = 3");
    }

    private static void usesByEnds() {
        Check.sentence("Uses: an end of kind 1 or 2 uses its variable");
        Script.due(Texts.program("if c 0 0"), "live(0, 0) = 4; cost(2, false) = 6");
        Script.due(Texts.program("stop d"), "live(0, 0) = 8; cost(3, false) = 6");
        Check.sentence("Uses: an end of kind 0 uses none");
        SpillPlanner x = new SpillPlanner();
        x.setEnd(0, 0, 3, 0, 0);
        Script.due(x, "live(0, 0) = 0; cost(3, false) = 0; cost(0, false) = 0");
    }

    private static void entryOfTheProgram() {
        Check.sentence("Uses: live at the beginning of block 0 is defined once more there");
        Script.due(Texts.program("b=a;stop b"), "cost(0, false) = 6; cost(1, false) = 6");
        Script.due(Texts.program("a=5;stop a"), "cost(0, false) = 6; cost(0, true) = 1");
        Check.sentence("Uses: .. once, also if block 0 is executed again and again");
        Script.due(Texts.program("if a 0 0"), "cost(0, false) = 6");
        Check.sentence("Uses: .. not at the beginning of another block");
        Script.due(Texts.program("a=5;go 1", "stop a"), "cost(0, false) = 6; cost(0, true) = 1");
        Script.due(Texts.program("stop b", "stop a"), "cost(0, false) = 3");
        Check.sentence("Costs: the entry of the program counts with the frequency of block 0");
        SpillPlanner x = Texts.program("go 1", "stop a");
        Texts.setFrequencies(x, 9999, 7);
        Script.due(x, "cost(0, false) = " + 3 * (9999 + 7));
    }

    private static void liveness() {
        Check.sentence("Liveness: used before it is defined");
        Script.due(Texts.program("b=a;a=1;b=a;stop b"),
            "live(0, 0) = 1; live(0, 1) = 0; live(0, 2) = 1; live(0, 3) = 2");
        Check.sentence("Liveness: an instruction uses before it defines");
        Script.due(Texts.program("a=a*a;stop a"), "live(0, 0) = 1; live(0, 1) = 1");
        Check.sentence("Liveness: neither used nor defined is not live");
        Script.due(Texts.program("go 0"), "live(0, 0) = 0; pressure() = 0");
    }

    private static void livenessAlongPaths() {
        Check.sentence("Liveness: on some path, though not on each");
        Script.due(Texts.program("if b 1 2", "stop a", "a=1;stop a"),
            "live(0, 0) = 3; live(1, 0) = 1; live(2, 0) = 0");
        Check.sentence("Liveness: along a path through all blocks");
        SpillPlanner x = Texts.program("go 7", "stop l", "go 1", "go 2", "go 3", "go 4", "go 5", "go 6");
        for (int b = 0; b < 8; b++) {
            Script.due(x, "live(" + b + ", 0) = 2048");
        }
        SpillPlanner back = Texts.program("go 1", "go 2", "go 3", "go 4", "go 5", "go 6", "go 7", "stop l");
        Script.due(back, "live(0, 0) = 2048");
        Check.sentence("Liveness: along a path that comes back to its own block");
        SpillPlanner round = Texts.program("b=a;a=1;c=2;go 7", "if d 0 0", "go 1", "go 2", "go 3", "go 4",
            "go 5", "go 6");
        Script.due(round, "live(0, 0) = 9; live(0, 1) = 8; live(0, 2) = 9; live(0, 3) = 9; live(7, 0) = 9");
    }

    private static void livenessOfUnreachableBlocks() {
        Check.sentence("Liveness: all blocks count, whether they can be reached or not");
        SpillPlanner x = Texts.program("stop a", "c=d+e;c=c+f;go 0", "stop g");
        Script.due(x, "live(1, 0) = 57; live(1, 2) = 1; live(2, 0) = 64; pressure() = 4;"
            + " conflicts(2) = 33; cost(3, false) = 3; cost(6, false) = 3; conflicts(6) = 0");
        Check.sentence("Plan: a variable of an unreachable block alone is used too");
        Script.due(x, "plan(12, false) = 0; home(6, 0) = 0; home(7, 0) = -1; enough() = 2");
    }

    private static void emptyAndFullPoints() {
        Check.sentence("10: i is an instruction or, for the number of instructions, the end");
        Script.due(new SpillPlanner(), "live(0, 0) = 1; live(0, 1) = " + INDEX);
        SpillPlanner x = Texts.program("a=b;a=b;a=b;a=b;a=b;a=b;a=b;a=b;stop a");
        Script.due(x, "live(0, 0) = 2; live(0, 7) = 2; live(0, 8) = 1; live(0, 9) = " + INDEX);
        Check.sentence("10: bit v for variable v, from 0 to 11");
        SpillPlanner all = Texts.program("a=a+b;a=c+d;a=e+f;a=g+h;a=i+j;a=k+l;stop a");
        Script.due(all, "live(0, 0) = 4095; live(0, 1) = 4092; live(0, 5) = 3072; live(0, 6) = 1");
        Check.sentence("12: the greatest number of variables that are live at a point");
        Script.due(all, "pressure() = 12");
        Script.due(new SpillPlanner(), "pressure() = 1");
        Script.due(Texts.program("a=1;b=2;c=a*b;stop c"), "pressure() = 2");
        Script.due(Texts.program("go 0", "go 0", "a=1;b=2;c=a*b;if c 2 2"), "pressure() = 2");
        Check.sentence("12: points are before instructions and before ends, not after definitions");
        Script.due(Texts.program("a=1;b=2;c=3;go 0"), "pressure() = 0");
    }

    private static void loopHeaders() {
        Check.sentence("Loops: h dominates u if every path from block 0 to u contains h, h itself too");
        Script.due(Texts.program("go 0"), "loops() = 1; loop(0, 0) = 0; loop(0, 1) = 1; loop(0, 2) = 0");
        Script.due(Texts.program("go 1", "go 1"), "loops() = 1; loop(0, 0) = 1; loop(0, 1) = 2");
        Check.sentence("Loops: a cycle with two ways in has no header");
        Script.due(Texts.program("if a 1 2", "go 2", "if a 1 3", "stop a"), "loops() = 0; loop(0, 0) = " + INDEX);
        Check.sentence("Loops: .. but has one with one way in");
        Script.due(Texts.program("if a 1 1", "go 2", "if a 1 3", "stop a"),
            "loops() = 1; loop(0, 0) = 1; loop(0, 1) = 6");
        Check.sentence("Loops: only a block u that can be reached makes a header");
        Script.due(Texts.program("stop a", "go 1", "go 0", "go 2"), "loops() = 0");
        Script.due(Texts.program("go 1", "stop a", "go 1"), "loops() = 0");
        Check.sentence("Loops: a way in from a block that cannot be reached does not count");
        Script.due(Texts.program("go 1", "go 2", "if a 1 3", "stop a", "go 2"),
            "loops() = 1; loop(0, 0) = 1; loop(0, 1) = 6");
    }

    private static void loopBlocks() {
        Check.sentence("Loops: the loop consists of h and the blocks from which such a u can be reached");
        Script.due(Texts.program("go 1", "if a 2 5", "if a 3 4", "go 1", "go 1", "stop a"),
            "loops() = 1; loop(0, 0) = 1; loop(0, 1) = 30");
        Check.sentence("Loops: .. without passing h");
        Script.due(Texts.program("go 1", "if a 1 2", "stop a"), "loop(0, 1) = 2");
        Script.due(Texts.program("if a 1 2", "go 0", "go 3", "if b 3 4", "stop a"),
            "loops() = 2; loop(0, 1) = 3; loop(1, 1) = 8");
        Check.sentence("Loops: blocks that cannot be reached are in no loop");
        Script.due(Texts.program("go 1", "if a 2 3", "go 1", "stop a", "go 2", "go 1", "go 4"),
            "loops() = 1; loop(0, 1) = 6");
        Check.sentence("Loops: a u that h does not dominate adds nothing");
        Script.due(Texts.program("if a 1 2", "if a 1 3", "if a 3 4", "go 2", "stop a"),
            "loops() = 1; loop(0, 0) = 1; loop(0, 1) = 2");
    }

    private static void loopsWithin() {
        Check.sentence("Loops: numbered from 0 in ascending order of their headers");
        Script.due(Texts.program("go 6", "if a 1 7", "if a 2 1", "if a 3 2", "if a 4 3", "if a 5 4",
            "if a 6 5", "stop a"),
            "loops() = 6; loop(0, 0) = 1; loop(1, 0) = 2; loop(5, 0) = 6; loop(6, 0) = " + INDEX);
        Check.sentence("Loops: a loop is within another one if its blocks are among those");
        Script.due(Texts.program("go 3", "if a 1 2", "if a 3 4", "go 1", "stop a"),
            "loops() = 2; loop(0, 0) = 1; loop(0, 1) = 2; loop(0, 2) = 1; loop(1, 0) = 3;"
                + " loop(1, 1) = 14; loop(1, 2) = 0");
        Check.sentence("14: 2 the number of other loops within which it is, from 0 to 7");
        SpillPlanner x = Texts.program("go 1", "if a 2 0", "if a 3 1", "if a 4 2", "if a 5 3", "if a 6 4",
            "if a 7 5", "if a 7 6");
        Script.due(x, "loops() = 8; loop(8, 0) = " + INDEX);
        for (int loop = 0; loop < 8; loop++) {
            Script.due(x, "loop(" + loop + ", 0) = " + loop + "; loop(" + loop + ", 1) = "
                + (256 - (1 << loop)) + "; loop(" + loop + ", 2) = " + loop);
        }
    }

    private static void noLoopAndAllLoops() {
        Check.sentence("13: the number of loops, from none to one for each block");
        Script.due(new SpillPlanner(), "loops() = 0; loop(0, 0) = " + INDEX);
        SpillPlanner x = Texts.program("if a 0 1", "if a 1 2", "if a 2 3", "if a 3 4", "if a 4 5",
            "if a 5 6", "if a 6 7", "go 7");
        Script.due(x, "loops() = 8; loop(7, 0) = 7; loop(7, 1) = 128; loop(7, 2) = 0; loop(0, 1) = 1;"
            + " loop(8, 0) = " + INDEX + "; loop(-1, 0) = " + INDEX);
    }

    private static void conflicts() {
        Check.sentence("Conflicts: one is defined by an instruction and the other live directly after it");
        Script.due(Texts.program("a=1;b=2;c=a*b;stop c"), "conflicts(0) = 2; conflicts(1) = 1; conflicts(2) = 0");
        Check.sentence("Conflicts: .. also if what is defined is not used");
        Script.due(Texts.program("a=1;l=2;stop a"), "conflicts(0) = 2048; conflicts(11) = 1");
        Check.sentence("Conflicts: .. also if it is a copy of the other one");
        Script.due(Texts.program("a=1;b=a;c=a*b;stop c"), "conflicts(0) = 2; conflicts(1) = 1");
        Check.sentence("Conflicts: live before the instruction only is no conflict");
        Script.due(Texts.program("a=1;b=a;stop b"), "conflicts(0) = 0; conflicts(1) = 0");
        Check.sentence("Conflicts: two different variables");
        Script.due(Texts.program("a=1;a=a+a;stop a"), "conflicts(0) = 0");
        Check.sentence("Conflicts: after the last instruction what the end and its blocks use is live");
        Script.due(Texts.program("a=1;b=2;if b 1 1", "stop a"), "conflicts(0) = 2; conflicts(1) = 1");
        Check.sentence("11: a variable that is not used conflicts with none");
        Script.due(new SpillPlanner(), "conflicts(0) = 0; conflicts(11) = 0");
    }

    private static void conflictsAtTheBeginning() {
        Check.sentence("Conflicts: or if both are live at the beginning of block 0");
        Script.due(Texts.program("if a 1 2", "stop b", "stop l"),
            "conflicts(0) = 2050; conflicts(1) = 2049; conflicts(11) = 3");
        Check.sentence("Conflicts: both live at the beginning of another block is not enough");
        Script.due(Texts.program("go 0", "if a 2 2", "stop b"), "conflicts(0) = 0; conflicts(1) = 0");
        Check.sentence("11: all variables can conflict");
        Script.due(Texts.program("a=a+b;a=c+d;a=e+f;a=g+h;a=i+j;a=k+l;stop a"),
            "conflicts(0) = 4094; conflicts(5) = 4063; conflicts(11) = 2047");
    }

    private static void memoryCosts() {
        Check.sentence("Costs: 3 times the frequencies of the blocks of all uses and definitions");
        SpillPlanner x = Texts.program("a=1;go 1", "b=a;b=a+b;if a 1 2", "stop b", "b=a;go 3");
        Texts.setFrequencies(x, 1, 10, 100, 1000);
        Script.due(x, "cost(0, false) = 3093; cost(1, false) = 3390; cost(2, false) = 0");
        Check.sentence("15: the greatest cost");
        SpillPlanner dear = new SpillPlanner();
        dear.clear(8);
        for (int b = 0; b < 8; b++) {
            for (int i = 0; i < 8; i++) {
                dear.append(b, 2, 0, 0, 0);
            }
            dear.setFrequency(b, 9999);
        }
        Script.due(dear, "cost(0, false) = " + 3 * 9999 * (8 * 17 + 1));
        Check.sentence("15: variables 0 and 11");
        Script.due(Texts.program("l=a;stop l"), "cost(0, false) = 6; cost(11, false) = 6");
    }

    private static void recomputingCosts() {
        Check.sentence("Costs: can be recomputed with exactly one definition");
        Script.due(Texts.program("a=5;b=6;b=6;go 0"), "cost(0, true) = 0; cost(1, true) = " + UNSUPPORTED);
        Script.due(new SpillPlanner(), "cost(11, true) = " + UNSUPPORTED);
        Check.sentence("Costs: .. the entry of the program is a definition too");
        Script.due(Texts.program("b=a;a=5;stop a"), "cost(0, true) = " + UNSUPPORTED);
        Script.due(Texts.program("stop a", "a=5;go 0"), "cost(0, true) = " + UNSUPPORTED);
        Script.due(new SpillPlanner(), "cost(0, true) = " + UNSUPPORTED);
        Check.sentence("Costs: .. which is an instruction of kind 0");
        Script.due(Texts.program("b=5;a=b;c=a+a;d=a-b;e=a*b;stop e"), "cost(0, true) = " + UNSUPPORTED
            + "; cost(1, true) = 3; cost(2, true) = " + UNSUPPORTED + "; cost(3, true) = " + UNSUPPORTED
            + "; cost(4, true) = " + UNSUPPORTED);
        Script.due(Texts.program("a=5;a=a;stop a"), "cost(0, true) = " + UNSUPPORTED);
        Check.sentence("Costs: .. also in a block that cannot be reached");
        Script.due(Texts.program("go 0", "a=5;if a 2 2", "stop a"), "cost(0, true) = 2");
        Check.sentence("Costs: the sum of the frequencies of the blocks of all of its uses");
        SpillPlanner x = Texts.program("a=1;go 1", "b=a;b=a+b;if a 1 2", "stop a", "b=a;go 3");
        Texts.setFrequencies(x, 9999, 10, 100, 1000);
        Script.due(x, "cost(0, true) = 1130");
        Check.sentence("15: the cost of keeping in memory can be asked of each variable");
        Script.due(x, "cost(0, false) = " + 3 * (9999 + 1130) + "; cost(11, false) = 0");
    }

    private static void programAsItIsNow() {
        Check.sentence("10 to 15: the answers are those of the program as it is, not as it was");
        SpillPlanner x = Texts.program("if a 0 0");
        Script.due(x, "live(0, 0) = 1; setEnd(0, 0, 0, 0, 0) = 1; live(0, 0) = 0; pressure() = 0;"
            + " cost(0, false) = 0; loops() = 1; clear(1) = 1; loops() = 0; live(0, 0) = 1");
        SpillPlanner y = Texts.program("c=a*b;stop c");
        Script.due(y, "conflicts(0) = 2; clear(1) = 1; conflicts(0) = 0; conflicts(1) = 0");
        SpillPlanner z = Texts.program("a=5;stop a");
        Script.due(z, "cost(0, true) = 1; removeLast(0) = 0; cost(0, true) = " + UNSUPPORTED
            + "; append(0, 1, 0, 1, 0) = 1; cost(0, true) = " + UNSUPPORTED
            + "; removeLast(0) = 1; append(0, 0, 0, 6, 0) = 1; cost(0, true) = 1");
    }

    private static void eightBlocks() {
        Check.sentence("10 to 15: all eight blocks count");
        SpillPlanner x = Texts.program("go 1", "go 2", "go 3", "go 4", "go 5", "go 6", "go 7",
            "a=1;b=2;c=a*b;if c 0 7");
        x.setFrequency(7, 9999);
        Script.due(x, "pressure() = 2; live(7, 2) = 3; live(6, 0) = 0; conflicts(0) = 2; loops() = 2;"
            + " loop(0, 1) = 255; loop(1, 1) = 128; loop(1, 2) = 1; cost(0, true) = 9999;"
            + " cost(0, false) = " + 2 * 3 * 9999 + "; cost(2, false) = " + 2 * 3 * 9999);
    }
}
