import java.util.NoSuchElementException;

/** Promises 1 to 9: a new object, and what changes and shows the program. */
public final class ProgramTest {
    private static final Class<IndexOutOfBoundsException> INDEX = IndexOutOfBoundsException.class;
    private static final Class<IllegalArgumentException> ARGUMENT = IllegalArgumentException.class;
    private static final Class<IllegalStateException> STATE = IllegalStateException.class;
    private static final Class<NoSuchElementException> ELEMENT = NoSuchElementException.class;

    public static void main(String[] args) {
        newObject();
        clear();
        appendKinds();
        appendRefuses();
        removeLast();
        setEndKinds();
        setEndRefuses();
        setFrequency();
        setInitial();
        instruction();
        block();
        changesDiscardThePlan();
        refusedChangesKeepThePlan();
        Check.end("ProgramTest");
    }

    private static void isEmptyBlock(SpillPlanner x, int b) {
        Check.gives("block " + b + " has no instructions", 0, () -> x.block(b, 0));
        Check.gives("block " + b + " stops", 2, () -> x.block(b, 1));
        Check.gives("block " + b + " stops with variable 0", 0, () -> x.block(b, 2));
        Check.gives("block " + b + " has no first block", -1, () -> x.block(b, 3));
        Check.gives("block " + b + " has no second block", -1, () -> x.block(b, 4));
        Check.gives("block " + b + " has the frequency 1", 1, () -> x.block(b, 5));
    }

    private static void newObject() {
        SpillPlanner x = new SpillPlanner();
        isEmptyBlock(x, 0);
        Check.refuses("a new object has one block", INDEX, () -> x.block(1, 0));
        Check.refuses("a new object has no plan", STATE, () -> x.planned(0));
        for (int v = 0; v < 12; v++) {
            int variable = v;
            Check.gives("initial value " + v, 0, () -> x.setInitial(variable, 0));
        }
        for (int what = 0; what < 4; what++) {
            int w = what;
            Check.gives("executed(" + w + ") at first", 0, () -> x.executed(w));
        }
        Check.gives("visits(0) at first", 0, () -> x.visits(0));
        Check.refuses("no snapshot at first", STATE, x::restoreSnapshot);
        Check.gives("the input is empty at first", 1, () -> x.feed('a'));
    }

    private static void clear() {
        SpillPlanner x = new SpillPlanner();
        Check.gives("clear(8)", 1, () -> x.clear(8));
        for (int b = 0; b < 8; b++) {
            x.append(b, 0, 1, 5, 0);
            x.setEnd(b, 1, 3, 7, 6);
            x.setFrequency(b, 77);
        }
        x.setInitial(4, 44);
        Check.refuses("clear(0)", ARGUMENT, () -> x.clear(0));
        Check.refuses("clear(9)", ARGUMENT, () -> x.clear(9));
        Check.refuses("clear(-1)", ARGUMENT, () -> x.clear(-1));
        Check.gives("a refused clear changes nothing", 77, () -> x.block(7, 5));
        Check.gives("clear(3)", 8, () -> x.clear(3));
        for (int b = 0; b < 3; b++) {
            isEmptyBlock(x, b);
        }
        Check.refuses("block 3 is gone", INDEX, () -> x.block(3, 0));
        Check.gives("initial values are 0 after clear", 0, () -> x.setInitial(4, 0));
        Check.gives("clear(8) again", 3, () -> x.clear(8));
        isEmptyBlock(x, 7);
        Check.gives("clear(1)", 8, () -> x.clear(1));
    }

    private static void appendKinds() {
        SpillPlanner x = new SpillPlanner();
        Check.gives("constant -999", 1, () -> x.append(0, 0, 11, -999, 12345));
        Check.gives("constant 999", 2, () -> x.append(0, 0, 0, 999, -1));
        Check.gives("copy without a second variable", 3, () -> x.append(0, 1, 2, 11, 99));
        Check.gives("sum", 4, () -> x.append(0, 2, 3, 0, 11));
        Check.gives("difference", 5, () -> x.append(0, 3, 4, 11, 0));
        Check.gives("product", 6, () -> x.append(0, 4, 5, 1, 1));
        int[][] due = {{0, 11, -999, -1}, {0, 0, 999, -1}, {1, 2, 11, -1}, {2, 3, 0, 11},
            {3, 4, 11, 0}, {4, 5, 1, 1}};
        for (int i = 0; i < due.length; i++) {
            for (int what = 0; what < 4; what++) {
                int at = i;
                int w = what;
                Check.gives("instruction(0, " + i + ", " + what + ")", due[i][what],
                    () -> x.instruction(0, at, w));
            }
        }
    }

    private static void appendRefuses() {
        SpillPlanner x = new SpillPlanner();
        Check.refuses("no such block", INDEX, () -> x.append(1, 9, 0, 0, 0));
        Check.refuses("block -1", INDEX, () -> x.append(-1, 0, 0, 0, 0));
        Check.refuses("kind -1", ARGUMENT, () -> x.append(0, -1, 0, 0, 0));
        Check.refuses("kind 5", ARGUMENT, () -> x.append(0, 5, 0, 0, 0));
        Check.refuses("target 12", ARGUMENT, () -> x.append(0, 0, 12, 0, 0));
        Check.refuses("target -1", ARGUMENT, () -> x.append(0, 0, -1, 0, 0));
        Check.refuses("constant 1000", ARGUMENT, () -> x.append(0, 0, 0, 1000, 0));
        Check.refuses("constant -1000", ARGUMENT, () -> x.append(0, 0, 0, -1000, 0));
        Check.refuses("least constant", ARGUMENT, () -> x.append(0, 0, 0, Integer.MIN_VALUE, 0));
        Check.refuses("copy of 12", ARGUMENT, () -> x.append(0, 1, 0, 12, 0));
        for (int kind = 2; kind <= 4; kind++) {
            int k = kind;
            Check.refuses("first -1", ARGUMENT, () -> x.append(0, k, 0, -1, 0));
            Check.refuses("second 12", ARGUMENT, () -> x.append(0, k, 0, 0, 12));
        }
        Check.gives("nothing was appended", 0, () -> x.block(0, 0));
        for (int i = 1; i <= 8; i++) {
            int count = i;
            Check.gives("instruction " + i, count, () -> x.append(0, 0, 0, count, 0));
        }
        Check.refuses("a ninth instruction", STATE, () -> x.append(0, 0, 0, 9, 0));
        Check.refuses("a wrong ninth instruction", ARGUMENT, () -> x.append(0, 0, 0, 1000, 0));
        Check.gives("still 8 instructions", 8, () -> x.block(0, 0));
    }

    private static void removeLast() {
        SpillPlanner x = Texts.program("a=1;b=a;c=a*b;stop c");
        Check.refuses("no such block", INDEX, () -> x.removeLast(1));
        Check.refuses("block -1", INDEX, () -> x.removeLast(-1));
        Check.gives("product removed", 4, () -> x.removeLast(0));
        Check.gives("two are left", 2, () -> x.block(0, 0));
        Check.refuses("it is gone", INDEX, () -> x.instruction(0, 2, 0));
        Check.gives("copy removed", 1, () -> x.removeLast(0));
        Check.gives("constant removed", 0, () -> x.removeLast(0));
        Check.refuses("nothing left", ELEMENT, () -> x.removeLast(0));
        Check.gives("the end stays", 2, () -> x.block(0, 2));
        Check.gives("there is room again", 1, () -> x.append(0, 3, 1, 2, 3));
        Check.gives("its kind", 3, () -> x.instruction(0, 0, 0));
    }

    private static void setEndKinds() {
        SpillPlanner x = new SpillPlanner();
        x.clear(8);
        Check.gives("go", 2, () -> x.setEnd(0, 0, 99, 7, 99));
        endIs(x, 0, -1, 7, -1);
        Check.gives("branch", 0, () -> x.setEnd(0, 1, 11, 0, 7));
        endIs(x, 1, 11, 0, 7);
        Check.gives("stop", 1, () -> x.setEnd(0, 2, 5, -7, 88));
        endIs(x, 2, 5, -1, -1);
        Check.gives("stop again", 2, () -> x.setEnd(0, 2, 11, 0, 0));
        isEmptyBlock(x, 1);
    }

    private static void endIs(SpillPlanner x, int kind, int variable, int first, int second) {
        Check.gives("kind of end", kind, () -> x.block(0, 1));
        Check.gives("variable of end", variable, () -> x.block(0, 2));
        Check.gives("first block of end", first, () -> x.block(0, 3));
        Check.gives("second block of end", second, () -> x.block(0, 4));
    }

    private static void setEndRefuses() {
        SpillPlanner x = new SpillPlanner();
        x.clear(2);
        x.setEnd(0, 1, 4, 0, 1);
        Check.refuses("block 2", INDEX, () -> x.setEnd(2, 9, 0, 0, 0));
        Check.refuses("block -1", INDEX, () -> x.setEnd(-1, 0, 0, 0, 0));
        Check.refuses("go 2", INDEX, () -> x.setEnd(0, 0, 0, 2, 0));
        Check.refuses("go -1", INDEX, () -> x.setEnd(0, 0, 0, -1, 0));
        Check.refuses("first 2, before the variable", INDEX, () -> x.setEnd(0, 1, 12, 2, 0));
        Check.refuses("second 2, before the variable", INDEX, () -> x.setEnd(0, 1, 12, 0, 2));
        Check.refuses("kind -1", ARGUMENT, () -> x.setEnd(0, -1, 0, 0, 0));
        Check.refuses("kind 3 goes nowhere", ARGUMENT, () -> x.setEnd(0, 3, 0, 9, 9));
        Check.refuses("branch on 12", ARGUMENT, () -> x.setEnd(0, 1, 12, 0, 0));
        Check.refuses("stop with -1", ARGUMENT, () -> x.setEnd(0, 2, -1, 0, 0));
        endIs(x, 1, 4, 0, 1);
    }

    private static void setFrequency() {
        SpillPlanner x = new SpillPlanner();
        x.clear(2);
        Check.gives("first change", 1, () -> x.setFrequency(1, 9999));
        Check.gives("second change", 9999, () -> x.setFrequency(1, 1));
        Check.gives("third change", 1, () -> x.setFrequency(1, 12));
        Check.refuses("block before frequency", INDEX, () -> x.setFrequency(2, 0));
        Check.refuses("block -1", INDEX, () -> x.setFrequency(-1, 1));
        Check.refuses("0", ARGUMENT, () -> x.setFrequency(1, 0));
        Check.refuses("10000", ARGUMENT, () -> x.setFrequency(1, 10000));
        Check.gives("still 12", 12, () -> x.block(1, 5));
        Check.gives("the other block is as before", 1, () -> x.block(0, 5));
    }

    private static void setInitial() {
        SpillPlanner x = new SpillPlanner();
        Check.gives("least", 0, () -> x.setInitial(0, Integer.MIN_VALUE));
        Check.gives("greatest", Integer.MIN_VALUE, () -> x.setInitial(0, Integer.MAX_VALUE));
        Check.gives("the value is run", Integer.MAX_VALUE, () -> x.run(1));
        Check.gives("variable 11", 0, () -> x.setInitial(11, 5));
        Check.refuses("variable 12", ARGUMENT, () -> x.setInitial(12, 0));
        Check.refuses("variable -1", ARGUMENT, () -> x.setInitial(-1, 0));
        Check.gives("variable 11 holds 5", 5, () -> x.setInitial(11, 5));
    }

    private static void instruction() {
        SpillPlanner x = Texts.program("a=1;stop a", "stop a");
        Check.refuses("block 2", INDEX, () -> x.instruction(2, 0, 0));
        Check.refuses("block -1", INDEX, () -> x.instruction(-1, 0, 0));
        Check.refuses("i 1", INDEX, () -> x.instruction(0, 1, 9));
        Check.refuses("i -1", INDEX, () -> x.instruction(0, -1, 0));
        Check.refuses("empty block", INDEX, () -> x.instruction(1, 0, 0));
        Check.refuses("what 4", ARGUMENT, () -> x.instruction(0, 0, 4));
        Check.refuses("what -1", ARGUMENT, () -> x.instruction(0, 0, -1));
    }

    private static void block() {
        SpillPlanner x = Texts.program("a=1;stop a");
        Check.gives("one instruction", 1, () -> x.block(0, 0));
        Check.refuses("block before what", INDEX, () -> x.block(1, 6));
        Check.refuses("block -1", INDEX, () -> x.block(-1, 0));
        Check.refuses("what 6", ARGUMENT, () -> x.block(0, 6));
        Check.refuses("what -1", ARGUMENT, () -> x.block(0, -1));
    }

    private static void changesDiscardThePlan() {
        SpillPlanner x = Texts.program("a=1;stop a");
        x.saveSnapshot();
        discards(x, "append", () -> x.append(0, 1, 0, 0, 0));
        discards(x, "removeLast", () -> x.removeLast(0));
        discards(x, "setEnd to the same", () -> x.setEnd(0, 2, 0, 0, 0));
        discards(x, "setFrequency to the same", () -> x.setFrequency(0, 1));
        discards(x, "setInitial to the same", () -> x.setInitial(0, 0));
        discards(x, "profile without a change", x::profile);
        discards(x, "read", () -> Texts.read(x, 0, "stop a"));
        discards(x, "restoreSnapshot", x::restoreSnapshot);
        discards(x, "clear", () -> x.clear(1));
    }

    private static void discards(SpillPlanner x, String what, Check.Call call) {
        x.plan(3, false);
        call.make();
        Check.refuses(what + " discards the plan", STATE, () -> x.planned(0));
    }

    private static void refusedChangesKeepThePlan() {
        SpillPlanner x = Texts.program("a=1;stop a");
        x.plan(3, false);
        Check.answerOf(() -> x.clear(0));
        Check.answerOf(() -> x.append(0, 5, 0, 0, 0));
        Check.answerOf(() -> x.removeLast(1));
        Check.answerOf(() -> x.setEnd(0, 0, 0, 1, 0));
        Check.answerOf(() -> x.setFrequency(0, 0));
        Check.answerOf(() -> x.setInitial(12, 0));
        Check.answerOf(() -> x.plan(13, false));
        Check.answerOf(x::restoreSnapshot);
        Check.answerOf(() -> Texts.read(x, 0, "stop z"));
        Check.answerOf(x::saveSnapshot);
        Check.answerOf(() -> x.feed('a'));
        Check.answerOf(() -> x.read(7));
        Check.answerOf(() -> x.run(5));
        Check.answerOf(() -> x.run(1));
        Check.answerOf(x::enough);
        Check.gives("the plan is still there", 3, () -> x.planned(0));
    }
}
