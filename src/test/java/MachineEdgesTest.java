/** The description's sentences on planned execution, each by a program worked out by hand. */
public final class MachineEdgesTest {
    /** Doubled once it is the least int, doubled twice it is 0. */
    private static final int HALF = 1 << 30;
    private static final String DEAR = "b=7;b=b*b;b=b+a;stop b";

    public static void main(String[] args) {
        registersAlone();
        scratchIsReadAgain();
        lessRecentlyUsed();
        leftToRight();
        definitions();
        beginningOfABlock();
        recomputing();
        recomputingAtEnds();
        loadsAtTheHeader();
        storesOnTheWayOut();
        storesBeforeLoads();
        twoLoopsLeftAtOnce();
        innerLoopLeft();
        entryOfTheProgram();
        entryIntoALoop();
        countsOfTheLatest();
        eightNestedLoops();
        Check.end("MachineEdgesTest");
    }

    /** With one register l alone stays in it; the others are in memory, with values 1, 2, 4, 8. */
    private static void counts(String text, int result, int loads, int stores) {
        SpillPlanner x = Texts.program(text);
        for (int v = 0; v < 4; v++) {
            x.setInitial(v, 1 << v);
        }
        int inMemory = x.plan(1, false);
        Check.gives("l is in the register", 0, () -> x.home(11, 1));
        Check.due("in memory", inMemory, Integer.bitCount(x.live(0, 0)) + (text.contains("c=") ? 1 : 0));
        Check.gives(text, result, () -> x.runPlanned(9));
        Check.gives(text + " loads", loads, () -> x.executed(1));
        Check.gives(text + " stores", stores, () -> x.executed(2));
        Check.gives(text + " without a plan", result, () -> x.run(9));
    }

    private static void registersAlone() {
        Check.sentence("Planned execution: a variable in a register is read and written there");
        SpillPlanner x = Samples.straight();
        Script.due(x, "plan(12, false) = 0; runPlanned(4) = 5; executed(0) = 4; executed(1) = 0;"
            + " executed(2) = 0; executed(3) = 0");
    }

    private static void scratchIsReadAgain() {
        Check.sentence("Planned execution: read from a scratch register if one holds it, otherwise loaded");
        counts("l=a;l=l+a;stop l", 2, 1, 0);
        counts("l=a+b;l=l+a;l=l+b;l=l+a;stop l", 7, 2, 0);
        Check.sentence("Planned execution: a variable that stands there twice is read only once");
        counts("l=a*a;l=l+a;stop l", 2, 1, 0);
    }

    private static void lessRecentlyUsed() {
        Check.sentence("Planned execution: loaded to the scratch register that was used less recently");
        counts("l=a+b;l=l+c;l=l+b;l=l+a;stop l", 10, 4, 0);
        Check.sentence("Planned execution: reading a scratch register uses it");
        counts("l=a+b;l=l+a;l=l+c;l=l+a;stop l", 9, 3, 0);
    }

    private static void leftToRight() {
        Check.sentence("Planned execution: the variables of an instruction are read from left to right");
        counts("l=a+b;l=l+c;l=l+b;stop l", 9, 3, 0);
        counts("l=b+a;l=l+c;l=l+b;stop l", 9, 4, 0);
    }

    private static void definitions() {
        Check.sentence("Planned execution: written to the scratch register that holds it, and stored");
        counts("l=b+a;a=l;l=l+b;l=l+a;stop l", 8, 2, 1);
        Check.sentence("Planned execution: or to the one used less recently, which holds it then");
        counts("l=a+b;c=l;l=l+b;l=l+c;l=l+a;stop l", 9, 3, 1);
        Check.sentence("Planned execution: writing a scratch register uses it");
        counts("l=a+b;c=l;l=l+d;l=l+c;stop l", 14, 3, 1);
        Check.sentence("Planned execution: each definition is stored, also one that is never used");
        counts("l=a;l=l+a;c=7;l=l+a;stop l", 3, 1, 1);
    }

    private static void beginningOfABlock() {
        Check.sentence("Planned execution: at the beginning of each block scratch registers hold nothing");
        SpillPlanner x = Texts.program("l=a;l=l+a;go 1", "l=l+a;stop l");
        x.setInitial(0, 5);
        Script.due(x, "plan(1, false) = 1; home(0, 0) = 1; runPlanned(5) = 15; executed(1) = 2");
        Check.sentence("Planned execution: .. also where a block goes to itself");
        SpillPlanner self = Texts.program("l=l+a;if l 0 1", "l=l+a;stop l");
        self.setInitial(0, HALF);
        self.setInitial(11, HALF);
        // The loop around l leaves no register for a.
        Script.due(self, "plan(1, false) = 1; home(0, 0) = 1; planned(3) = 0; runPlanned(20) = " + HALF
            + "; visits(0) = 3; executed(1) = 4");
    }

    private static void recomputing() {
        Check.sentence("Planned execution: a recomputation for each use; its definition does nothing");
        SpillPlanner x = Texts.program("a=5;c=a*b;c=a+c;c=a+c;c=a*a;stop c");
        x.setInitial(1, 3);
        Script.due(x, "plan(1, true) = 0; home(0, 0) = 2; runPlanned(6) = 25; executed(0) = 6;"
            + " executed(1) = 0; executed(2) = 0; executed(3) = 4");
        Check.sentence("Planned execution: .. which is executed and counts for the limit");
        Script.due(x, "runPlanned(5) = throws ArithmeticException");
        Check.sentence("Planned execution: the constants -999 and 999");
        SpillPlanner ends = Texts.program("a=-999;b=999;c=a*b;c=c+a;c=c+b;stop c");
        Script.due(ends, "plan(1, true) = 0; home(0, 0) = 2; home(1, 0) = 2; runPlanned(6) = -998001;"
            + " executed(3) = 4");
    }

    private static void recomputingAtEnds() {
        Check.sentence("Planned execution: an end uses its variable too");
        SpillPlanner x = Texts.program("a=5;b=9;b=b*b;if a 1 2", "stop a", "stop b");
        Script.due(x, "plan(1, true) = 0; home(0, 0) = 2; runPlanned(5) = 5; executed(3) = 2");
        SpillPlanner memory = Texts.program("l=1;l=l*l;l=l*l;if a 1 1", "stop a");
        memory.setInitial(0, 4);
        Script.due(memory, "plan(1, false) = 1; home(0, 0) = 1; runPlanned(5) = 4; executed(1) = 2");
    }

    private static SpillPlanner looped(int initial, String... blocks) {
        SpillPlanner x = Texts.program(blocks);
        Texts.setFrequencies(x, 1, 5, 100);
        x.setInitial(0, initial);
        x.plan(1, false);
        return x;
    }

    private static void loadsAtTheHeader() {
        Check.sentence("Planned execution: from outside a loop to its header each promoted variable is loaded");
        Script.due(looped(HALF, "go 1", "a=a+a;if a 1 2", DEAR), "promoted(0, 0) = 0; runPlanned(9) = 49;"
            + " visits(1) = 2; executed(0) = 9; executed(1) = 2; executed(2) = 1");
        Check.sentence("Planned execution: .. that is live there");
        Script.due(looped(9, "go 1", "a=0;a=a+a;if a 1 2", DEAR), "promoted(0, 0) = 0; runPlanned(8) = 49;"
            + " executed(1) = 1; executed(2) = 1");
    }

    private static void storesOnTheWayOut() {
        Check.sentence("Planned execution: stored on the way out if it is defined in the loop");
        Script.due(looped(0, "go 1", "if a 1 2", DEAR), "promoted(0, 0) = 0; runPlanned(6) = 49;"
            + " executed(1) = 2; executed(2) = 0");
        Check.sentence("Planned execution: .. and live there");
        String[] lasts = {"c=1;stop c", "stop a"};
        int[] stores = {1, 2};
        for (int i = 0; i < 2; i++) {
            SpillPlanner x = Texts.program("b=7;b=b*b;a=a+b;go 1", "go 2", "a=a+a;if a 2 3", lasts[i]);
            Texts.setFrequencies(x, 100, 1, 20, 1);
            x.setInitial(0, HALF - 49);
            x.plan(1, false);
            // One store is that of a=a+b in block 0.
            Script.due(x, "promoted(0, 0) = 0; runPlanned(20) = " + (1 - i) + "; visits(2) = 2; executed(1) = "
                + (2 + i) + "; executed(2) = " + stores[i]);
        }
    }

    private static void storesBeforeLoads() {
        Check.sentence("Planned execution: stores come before loads");
        SpillPlanner x = Texts.program("go 1", "a=a+a;if a 1 2", "a=a+a;if a 2 3", DEAR);
        Texts.setFrequencies(x, 1, 5, 5, 100);
        x.setInitial(0, HALF);
        Script.due(x, "plan(1, false) = 1; promoted(0, 0) = 0; promoted(0, 1) = 0; runPlanned(20) = 49;"
            + " visits(1) = 2; visits(2) = 1; executed(1) = 3; executed(2) = 2");
    }

    /** a is promoted in the inner loop, {2, 3}, and j in the outer one, {1, 2, 3, 4}. */
    private static SpillPlanner nested(int a, int j) {
        SpillPlanner x = Texts.program("go 1", "j=j+j;go 2", "a=a+a;if a 3 5", "if j 2 4", "go 1",
            "b=7;c=8;b=b*c;b=b*h;b=b*h;b=b+a;b=b+j;stop b");
        Texts.setFrequencies(x, 1, 5, 6, 5, 1, 100);
        x.setInitial(0, a);
        x.setInitial(7, 3);
        x.setInitial(9, j);
        Script.due(x, "loop(0, 1) = 30; loop(1, 1) = 12; plan(3, false) = 2; home(7, 1) = 2;"
            + " promoted(0, 1) = 0; promoted(9, 0) = 1; planned(3) = 2");
        return x;
    }

    private static void twoLoopsLeftAtOnce() {
        Check.sentence("Planned execution: from a block of a loop to a block outside, for each such loop");
        Script.due(nested(HALF, HALF), "runPlanned(16) = " + (504 + Integer.MIN_VALUE)
            + "; visits(1) = 1; visits(2) = 2; visits(4) = 0; executed(1) = 4; executed(2) = 2");
        Check.sentence("Planned execution: from outside to the header, as often as that happens");
        Script.due(nested(HALF, Integer.MIN_VALUE), "runPlanned(30) = 504; visits(1) = 2; visits(2) = 2;"
            + " visits(4) = 1; executed(1) = 5; executed(2) = 3");
    }

    /** The inner loop is left for the header of the outer one, in which nothing is loaded again. */
    private static void innerLoopLeft() {
        Check.sentence("Planned execution: within an outer loop its own variables are not loaded again");
        Script.due(Samples.nestedLoops(), "plan(3, false) = 2; promoted(5, 1) = 1; promoted(6, 0) = 2;"
            + " runPlanned(100) = 63; visits(1) = 2; executed(1) = 6; executed(2) = 2");
    }

    private static void entryOfTheProgram() {
        Check.sentence("Planned execution: at the entry live variables are in their registers or slots");
        SpillPlanner x = Texts.program("l=a+b;l=l*a;stop l");
        x.setInitial(0, 6);
        x.setInitial(1, -1);
        Script.due(x, "plan(1, false) = 2; runPlanned(3) = 30; executed(1) = 2; executed(2) = 0;"
            + " plan(2, false) = 0; runPlanned(3) = 30; executed(1) = 0; executed(2) = 0");
        Check.sentence("Planned execution: .. each time that it begins");
        Script.due(x, "runPlanned(3) = 30; plan(1, false) = 2; runPlanned(3) = 30; runPlanned(3) = 30");
    }

    private static void entryIntoALoop() {
        Check.sentence("Planned execution: if block 0 is a header, variables promoted in it are loaded then");
        SpillPlanner x = Texts.program("a=a+a;if a 0 1", DEAR);
        Texts.setFrequencies(x, 5, 100);
        x.setInitial(0, HALF);
        Script.due(x, "plan(1, false) = 1; promoted(0, 0) = 0; runPlanned(8) = 49; visits(0) = 2;"
            + " executed(1) = 2; executed(2) = 1");
        Check.sentence("Planned execution: .. that are live there");
        SpillPlanner dead = Texts.program("a=0;a=a+a;if a 0 1", DEAR);
        Texts.setFrequencies(dead, 5, 100);
        Script.due(dead, "plan(1, false) = 1; promoted(0, 0) = 0; runPlanned(8) = 49; executed(1) = 1;"
            + " executed(2) = 1");
        Check.sentence("Planned execution: the entry is no definition in the loop, so that nothing is stored");
        SpillPlanner used = Texts.program("if a 0 1", DEAR);
        Texts.setFrequencies(used, 5, 100);
        Script.due(used, "plan(1, false) = 1; promoted(0, 0) = 0; runPlanned(5) = 49; executed(1) = 2;"
            + " executed(2) = 0");
    }

    private static void countsOfTheLatest() {
        Check.sentence("23: the counts are those of one execution, not of all together");
        SpillPlanner x = Samples.rich();
        for (int i = 0; i < 3; i++) {
            Script.due(x, "runPlanned(13) = 63; executed(0) = 13; executed(1) = 2; executed(2) = 1; visits(1) = 3");
        }
        SpillPlanner y = Texts.program("a=5;b=7;c=a*b;stop c");
        y.plan(1, true);
        for (int i = 0; i < 3; i++) {
            Script.due(y, "runPlanned(4) = 35; executed(0) = 4; executed(3) = 1; visits(0) = 1");
        }
    }

    /** Block 7 is left for block 6, and so on to block 0, where the last round is without end. */
    private static void eightNestedLoops() {
        Check.sentence("Planned execution: out of the innermost of 8 loops and through all of them");
        SpillPlanner x = Texts.program("go 1", "if a 2 0", "if a 3 1", "if a 4 2", "if a 5 3", "if a 6 4",
            "if a 7 5", "a=a+a;if a 7 6");
        x.setInitial(0, HALF);
        Script.due(x, "loops() = 8; plan(1, false) = 0; runPlanned(1000) = throws ArithmeticException;"
            + " run(1000) = throws ArithmeticException; executed(0) = 0; clear(8) = 8; run(1) = 0");
    }
}
