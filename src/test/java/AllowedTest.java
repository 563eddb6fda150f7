/** The last values that are allowed, the empty and the full: promises 1 to 9 and 16 to 29. */
public final class AllowedTest {
    public static void main(String[] args) {
        newObject();
        clear();
        everyClear();
        appendRanges();
        appendWithoutMeaning();
        fullBlock();
        removeLast();
        endRanges();
        endsWithoutMeaning();
        frequencies();
        initialValues();
        parts();
        planRange();
        executionLimits();
        countsAtFirst();
        latestExecution();
        profileAll();
        snapshots();
        manyCalls();
        Check.end("AllowedTest");
    }

    private static void isNewBlock(SpillPlanner x, int b) {
        String script = "block(#, 0) = 0; block(#, 1) = 2; block(#, 2) = 0; block(#, 3) = -1;"
            + " block(#, 4) = -1; block(#, 5) = 1;"
            + " instruction(#, 0, 0) = throws IndexOutOfBoundsException";
        Script.due(x, script.replace("#", String.valueOf(b)));
    }

    private static void newObject() {
        Check.sentence("1: creates a program with one block");
        SpillPlanner x = new SpillPlanner();
        isNewBlock(x, 0);
        Script.due(x, "block(1, 0) = throws IndexOutOfBoundsException; saveSnapshot() = 1");
        Check.sentence("1: and no plan");
        Script.due(new SpillPlanner(), "planned(0) = throws IllegalStateException");
        Check.sentence("Program: all variables have initial values, which are 0 at first");
        for (int v = 0; v < 12; v++) {
            Script.made("setEnd(0, 2, " + v + ", 0, 0) = 2; run(1) = 0; setInitial(" + v + ", 1) = 0");
        }
    }

    private static void clear() {
        Check.sentence("2: blocks from 1 to 8 are allowed; returns the previous number of blocks");
        Script.made("clear(1) = 1; clear(8) = 1; clear(8) = 8; clear(2) = 8; clear(7) = 2; clear(1) = 7");
        Check.sentence("Program: a program has 1 to 8 blocks, numbered from 0");
        for (int n = 1; n <= 8; n++) {
            Script.made("clear(" + n + ") = 1; saveSnapshot() = " + n + "; block(0, 5) = 1; block("
                + (n - 1) + ", 5) = 1; block(" + n + ", 5) = throws IndexOutOfBoundsException;"
                + " block(-1, 5) = throws IndexOutOfBoundsException");
        }
    }

    private static void everyClear() {
        Check.sentence("Program: after every clear all blocks are empty, stop with variable 0, have frequency 1");
        for (int n = 1; n <= 8; n++) {
            SpillPlanner x = Samples.full();
            x.clear(n);
            for (int b = 0; b < n; b++) {
                isNewBlock(x, b);
            }
        }
        Check.sentence("Program: .. also a block that a smaller program did not have in between");
        SpillPlanner x = Samples.full();
        Script.due(x, "clear(1) = 8; clear(8) = 1");
        isNewBlock(x, 7);
        Check.sentence("2: the initial values become 0");
        for (int v = 0; v < 12; v++) {
            Script.made("setInitial(" + v + ", 7) = 0; clear(1) = 1; setInitial(" + v + ", 0) = 0");
        }
    }

    private static void appendRanges() {
        Check.sentence("3: constants from -999 to 999");
        Script.made("append(0, 0, 0, -999, 0) = 1; run(2) = -999; append(0, 0, 0, 999, 0) = 2;"
            + " run(3) = 999; instruction(0, 0, 2) = -999; instruction(0, 1, 2) = 999");
        Check.sentence("3: kinds from 0 to 4, variables from 0 to 11");
        for (int kind = 0; kind <= 4; kind++) {
            int b = kind < 2 ? -1 : 11;
            Script.made("append(0, " + kind + ", 11, 11, 11) = 1; append(0, " + kind
                + ", 0, 0, 0) = 2; instruction(0, 0, 0) = " + kind + "; instruction(0, 0, 1) = 11;"
                + " instruction(0, 0, 2) = 11; instruction(0, 0, 3) = " + b
                + "; instruction(0, 1, 1) = 0; instruction(0, 1, 2) = 0");
        }
        Check.sentence("3: the last block");
        Script.made("clear(8) = 1; append(7, 0, 0, 1, 0) = 1; append(7, 0, 0, 1, 0) = 2; block(6, 0) = 0");
    }

    private static void appendWithoutMeaning() {
        Check.sentence("3: b is without meaning for the kinds 0 and 1");
        for (String b : new String[] {"-1", "12", "MIN", "MAX"}) {
            Script.made("append(0, 0, 0, 5, " + b + ") = 1; append(0, 1, 0, 5, " + b
                + ") = 2; instruction(0, 0, 3) = -1; instruction(0, 1, 3) = -1; live(0, 0) = 32");
        }
        Check.sentence("3: a is a constant for kind 0, not a variable");
        Script.made("append(0, 0, 1, 3, 0) = 1; live(0, 0) = 1; cost(3, false) = 0");
    }

    private static void fullBlock() {
        Check.sentence("Program: a block has at most 8 instructions, numbered from 0");
        SpillPlanner x = Script.made("clear(2) = 1");
        for (int i = 0; i < 8; i++) {
            Script.due(x, "append(0, 0, " + i + ", " + (10 + i) + ", 0) = " + (i + 1));
        }
        Script.due(x, "append(0, 0, 8, 18, 0) = throws IllegalStateException; block(0, 0) = 8;"
            + " instruction(0, 0, 2) = 10; instruction(0, 7, 2) = 17; live(0, 8) = 1;"
            + " instruction(0, 8, 2) = throws IndexOutOfBoundsException; append(1, 0, 0, 1, 0) = 1");
        Check.sentence("3: after a removal there is room for one again");
        Script.due(x, "removeLast(0) = 0; append(0, 4, 9, 8, 7) = 8; instruction(0, 7, 1) = 9;"
            + " append(0, 0, 8, 18, 0) = throws IllegalStateException");
    }

    private static void removeLast() {
        Check.sentence("4: returns the kind of the instruction, down to the empty block");
        SpillPlanner x = Script.made("clear(2) = 1; append(1, 0, 0, 9, 0) = 1; append(1, 1, 0, 1, 0) = 2;"
            + " append(1, 2, 0, 1, 2) = 3; append(1, 3, 0, 1, 2) = 4; append(1, 4, 0, 1, 2) = 5");
        Script.due(x, "removeLast(1) = 4; block(1, 0) = 4; removeLast(1) = 3; removeLast(1) = 2;"
            + " removeLast(1) = 1; instruction(1, 0, 2) = 9; removeLast(1) = 0; block(1, 0) = 0;"
            + " removeLast(1) = throws NoSuchElementException; block(1, 0) = 0; block(1, 1) = 2");
    }

    private static void endRanges() {
        Check.sentence("5: kinds from 0 to 2; returns the previous kind");
        Script.made("clear(8) = 1; setEnd(7, 0, 0, 0, 0) = 2; setEnd(7, 1, 0, 0, 0) = 0;"
            + " setEnd(7, 2, 0, 0, 0) = 1; setEnd(7, 2, 0, 0, 0) = 2; block(0, 1) = 2");
        Check.sentence("5: an end goes to the first and to the last block, also to its own");
        Script.made("clear(8) = 1; setEnd(7, 0, 0, 7, 0) = 2; block(7, 3) = 7; setEnd(7, 0, 0, 0, 0) = 0;"
            + " block(7, 3) = 0; setEnd(0, 1, 0, 7, 0) = 2; block(0, 3) = 7; block(0, 4) = 0;"
            + " setEnd(0, 1, 0, 0, 7) = 1; block(0, 3) = 0; block(0, 4) = 7");
        Check.sentence("5: variables from 0 to 11");
        Script.made("setEnd(0, 1, 11, 0, 0) = 2; block(0, 2) = 11; setEnd(0, 1, 0, 0, 0) = 1;"
            + " block(0, 2) = 0; setEnd(0, 2, 11, 0, 0) = 1; block(0, 2) = 11; setEnd(0, 2, 0, 0, 0) = 2");
    }

    private static void endsWithoutMeaning() {
        Check.sentence("5: variable without meaning for kind 0, second for 0 and 2, first for 2");
        for (String any : new String[] {"-1", "12", "99", "MIN", "MAX"}) {
            Script.made("setEnd(0, 0, " + any + ", 0, " + any + ") = 2; block(0, 2) = -1;"
                + " block(0, 3) = 0; block(0, 4) = -1; setEnd(0, 2, 1, " + any + ", " + any
                + ") = 0; block(0, 2) = 1; block(0, 3) = -1; block(0, 4) = -1");
        }
        Check.sentence("9: 2 its variable, 3 its first block, 4 its second block, -1 without one");
        Script.made("clear(3) = 1; setEnd(0, 1, 4, 1, 2) = 2; setEnd(0, 0, 5, 2, 1) = 1; block(0, 2) = -1;"
            + " block(0, 3) = 2; block(0, 4) = -1; setEnd(0, 1, 4, 1, 2) = 0;"
            + " setEnd(0, 2, 6, 1, 2) = 1; block(0, 2) = 6; block(0, 3) = -1; block(0, 4) = -1");
    }

    private static void frequencies() {
        Check.sentence("6: frequencies from 1 to 9999; returns the previous one");
        Script.made("clear(8) = 1; setFrequency(7, 9999) = 1; setFrequency(7, 1) = 9999;"
            + " setFrequency(0, 2) = 1; setFrequency(0, 9998) = 2; block(0, 5) = 9998; block(7, 5) = 1");
    }

    private static void initialValues() {
        Check.sentence("7: any int; returns the previous value");
        Script.made("setInitial(0, MIN) = 0; run(1) = " + Integer.MIN_VALUE + "; setInitial(0, MAX) = "
            + Integer.MIN_VALUE + "; run(1) = " + Integer.MAX_VALUE + "; setInitial(0, -1) = "
            + Integer.MAX_VALUE + "; setInitial(0, 0) = -1; setInitial(11, 5) = 0; setInitial(11, 5) = 5");
    }

    private static void parts() {
        Check.sentence("8: what from 0 to 3; the second variable is -1 without one");
        Script.made("append(0, 2, 3, 4, 5) = 1; instruction(0, 0, 0) = 2; instruction(0, 0, 1) = 3;"
            + " instruction(0, 0, 2) = 4; instruction(0, 0, 3) = 5; removeLast(0) = 2;"
            + " append(0, 1, 6, 7, 8) = 1; instruction(0, 0, 2) = 7; instruction(0, 0, 3) = -1");
        Check.sentence("9: what from 0 to 5");
        Script.made("clear(3) = 1; append(1, 0, 0, 0, 0) = 1; setEnd(1, 1, 9, 2, 0) = 2; setFrequency(1, 8) = 1;"
            + " block(1, 0) = 1; block(1, 1) = 1; block(1, 2) = 9; block(1, 3) = 2; block(1, 4) = 0;"
            + " block(1, 5) = 8");
    }

    private static void planRange() {
        Check.sentence("16: k from 1 to 12");
        Script.made("plan(1, false) = 0; planned(0) = 1; plan(12, true) = 0; planned(0) = 12;"
            + " plan(1, true) = 0; plan(12, false) = 0; plan(2, false) = 0; planned(0) = 2");
        Check.sentence("17: variables 0 and 11, what from 0 to 2");
        Script.made("plan(1, false) = 0; home(0, 0) = 0; home(0, 1) = 0; home(0, 2) = -1;"
            + " home(11, 0) = -1; home(11, 1) = -1; home(11, 2) = -1");
        Check.sentence("19: what from 0 to 4, where the plan has nothing in memory");
        Script.made("plan(3, true) = 0; planned(0) = 3; planned(1) = 0; planned(2) = 0; planned(3) = 0;"
            + " planned(4) = 0");
    }

    /** Rounds of two instructions and an end: 2 + 3 * n + 1 steps for n rounds. */
    private static SpillPlanner rounds(int rounds) {
        SpillPlanner x = Texts.program("c=1;go 1", "a=a-c;b=b+c;if a 1 2", "stop b");
        x.setInitial(0, rounds);
        x.plan(3, false);
        return x;
    }

    private static void executionLimits() {
        Check.sentence("21: limits from 1 to 1000");
        Script.made("run(1) = 0; run(1000) = 0");
        Check.sentence("22: limits from 1 to 1000");
        Script.made("plan(1, false) = 0; runPlanned(1) = 0; runPlanned(1000) = 0");
        Check.sentence("21: the greatest number of instructions and ends that may be executed");
        Script.due(rounds(4), "run(14) = throws ArithmeticException; run(15) = 4; executed(0) = 15; run(16) = 4");
        Check.sentence("22: the greatest number of instructions and ends that may be executed");
        Script.due(rounds(4), "runPlanned(14) = throws ArithmeticException; runPlanned(15) = 4;"
            + " executed(0) = 15; runPlanned(16) = 4");
        Check.sentence("21 and 22: 1000 steps are executed, 1001 are not");
        SpillPlanner x = rounds(332);
        Script.due(x, "run(998) = throws ArithmeticException; run(999) = 332; run(1000) = 332");
        x.append(2, 1, 3, 0, 0);
        x.plan(12, false);
        Script.due(x, "run(999) = throws ArithmeticException; run(1000) = 332; executed(0) = 1000;"
            + " runPlanned(999) = throws ArithmeticException; runPlanned(1000) = 332; visits(1) = 332");
        x.append(2, 1, 3, 0, 0);
        x.plan(12, false);
        Script.due(x, "run(1000) = throws ArithmeticException;"
            + " runPlanned(1000) = throws ArithmeticException; executed(0) = 1000");
    }

    private static void countsAtFirst() {
        Check.sentence("23: all counts are 0 at first");
        Script.made("executed(0) = 0; executed(1) = 0; executed(2) = 0; executed(3) = 0");
        Check.sentence("24: no block was executed at first");
        SpillPlanner x = Script.made("clear(8) = 1");
        for (int b = 0; b < 8; b++) {
            Script.due(x, "visits(" + b + ") = 0");
        }
        Check.sentence("23: .. also after executions that throw");
        Script.made("setEnd(0, 0, 0, 0, 0) = 2; run(1000) = throws ArithmeticException;"
            + " plan(1, true) = 0; runPlanned(1000) = throws ArithmeticException;"
            + " executed(0) = 0; visits(0) = 0");
    }

    private static void latestExecution() {
        Check.sentence("23: the latest execution that did not throw, by run or runPlanned");
        SpillPlanner x = Samples.rich();
        Script.due(x, "executed(0) = 13; executed(1) = 2; executed(2) = 1; executed(3) = 0; run(13) = 63;"
            + " executed(0) = 13; executed(1) = 0; executed(2) = 0; executed(3) = 0;"
            + " runPlanned(13) = 63; executed(1) = 2; executed(2) = 1; run(12) = throws ArithmeticException;"
            + " executed(1) = 2; setEnd(0, 2, 5, 0, 0) = 0; run(2) = 1; executed(0) = 2; executed(1) = 0");
        Check.sentence("24: how often a block was executed in the latest execution that did not throw");
        Script.due(x, "visits(0) = 1; visits(1) = 0; visits(2) = 0; setEnd(0, 0, 0, 1, 0) = 2;"
            + " run(12) = throws ArithmeticException; visits(1) = 0; run(13) = 63; visits(0) = 1;"
            + " visits(1) = 3; visits(2) = 1");
    }

    private static void profileAll() {
        Check.sentence("25: to 1 if it was not executed; returns how many frequencies change");
        SpillPlanner x = Samples.full();
        Script.due(x, "profile() = 8; profile() = 0; block(0, 5) = 1; block(7, 5) = 1");
        Script.made("clear(8) = 1; profile() = 0; setFrequency(7, 2) = 1; profile() = 1; block(7, 5) = 1");
        Check.sentence("25: to how often it was executed");
        SpillPlanner rounds = rounds(332);
        Script.due(rounds, "run(1000) = 332; profile() = 1; block(0, 5) = 1; block(1, 5) = 332;"
            + " block(2, 5) = 1; profile() = 0; setInitial(0, 331) = 332; run(1000) = 331;"
            + " profile() = 1; block(1, 5) = 331");
        Check.sentence("25: .. in the latest execution that did not throw");
        Script.due(rounds, "setInitial(0, 1) = 331; run(5) = throws ArithmeticException; profile() = 0;"
            + " run(6) = 1; profile() = 1; block(1, 5) = 1");
    }

    private static void snapshots() {
        Check.sentence("28: saves in place of an earlier snapshot; returns the number of blocks");
        Script.made("saveSnapshot() = 1; clear(8) = 1; saveSnapshot() = 8; clear(3) = 8; restoreSnapshot() = 8;"
            + " block(7, 0) = 0; clear(1) = 8; saveSnapshot() = 1; clear(8) = 1; restoreSnapshot() = 1;"
            + " block(1, 0) = throws IndexOutOfBoundsException");
        Check.sentence("28: saves the program with frequencies and initial values");
        SpillPlanner x = Samples.full();
        String program = State.of(x, State.Part.PROGRAM);
        x.saveSnapshot();
        x.clear(1);
        Check.due("the program", State.of(saved(), State.Part.PROGRAM), program);
        Script.due(saved(), "setInitial(11, 0) = 7; setInitial(0, 0) = 0");
        Check.sentence("29: the snapshot is kept, whatever happens to the program afterwards");
        SpillPlanner y = saved();
        y.removeLast(0);
        y.setFrequency(1, 1);
        y.setInitial(11, 8);
        y.setEnd(2, 2, 0, 0, 0);
        y.restoreSnapshot();
        Check.due("the program", State.of(y, State.Part.PROGRAM), program);
        Script.due(y, "setInitial(11, 0) = 7");
        Check.sentence("29: there is no plan then");
        Script.made("plan(1, true) = 0; saveSnapshot() = 1; planned(0) = 1; restoreSnapshot() = 1;"
            + " planned(0) = throws IllegalStateException");
    }

    /** The full program, saved, lost and restored. */
    private static SpillPlanner saved() {
        SpillPlanner x = Samples.full();
        x.saveSnapshot();
        Script.due(x, "clear(1) = 8; setInitial(0, 5) = 0; restoreSnapshot() = 8");
        return x;
    }

    private static void manyCalls() {
        Check.sentence("What it is: an object is used for at most 512 calls");
        SpillPlanner x = Script.made("clear(8) = 1");
        for (int call = 2; call < 512; call++) {
            x.setInitial(0, call);
        }
        Script.due(x, "run(1) = 511");
    }
}
