import java.util.NoSuchElementException;
import java.util.function.Supplier;

/** Every "Throws" line of the promises, by the first values that are not allowed. */
public final class RefusalTest {
    private static final Class<IndexOutOfBoundsException> INDEX = IndexOutOfBoundsException.class;
    private static final Class<IllegalArgumentException> ARGUMENT = IllegalArgumentException.class;
    private static final Class<IllegalStateException> STATE = IllegalStateException.class;
    private static final Class<NoSuchElementException> ELEMENT = NoSuchElementException.class;
    private static final Class<ArithmeticException> ARITHMETIC = ArithmeticException.class;
    private static final Class<UnsupportedOperationException> UNSUPPORTED =
        UnsupportedOperationException.class;

    /** The sample has three blocks with 1, 1 and 4 instructions, and one loop. */
    private static final int LAST_BLOCK = 2;
    private static final int LAST_VARIABLE = 11;

    public static void main(String[] args) {
        clear();
        append();
        appendToFullBlocks();
        removeLast();
        setEnd();
        setFrequencyAndInitial();
        instructionAndBlock();
        live();
        conflictsAndLoop();
        cost();
        plan();
        homeAndPlanned();
        promoted();
        run();
        runPlanned();
        executedAndVisits();
        texts();
        snapshot();
        Check.end("RefusalTest");
    }

    /** The values next to a range on both sides, and the farthest ones. */
    private static int[] outside(int low, int high) {
        return new int[] {low - 1, high + 1, Integer.MIN_VALUE, Integer.MAX_VALUE};
    }

    /** The call, written with % for one argument, is refused for each of these values. */
    private static void refused(Class<? extends RuntimeException> want, String call, int... values) {
        for (int value : values) {
            refusedFor(Samples::rich, want, call.replace("%", String.valueOf(value)));
        }
    }

    /**
     * "A method that throws an exception leaves the state unchanged": each part is compared with
     * that of a twin without the call, and where it can be asked twice also before and after it.
     */
    private static void refusedFor(Supplier<SpillPlanner> sample,
            Class<? extends RuntimeException> want, String call) {
        for (State.Part part : State.Part.values()) {
            String before = State.of(sample.get(), part);
            SpillPlanner x = sample.get();
            Check.due(call, Script.answer(x, call), "throws." + want.getSimpleName());
            Check.due(part + " after " + call, State.of(x, part), before);
            if (part.canBeAskedTwice) {
                SpillPlanner y = sample.get();
                State.of(y, part);
                Script.answer(y, call);
                Check.due(part + " before and after " + call, State.of(y, part), before);
            }
        }
    }

    private static void clear() {
        Check.sentence("2: IllegalArgumentException if blocks is not from 1 to 8");
        refused(ARGUMENT, "clear(%)", outside(1, 8));
    }

    private static void append() {
        Check.sentence("3: IndexOutOfBoundsException if there is no such block");
        refused(INDEX, "append(%, 0, 0, 0, 0)", outside(0, LAST_BLOCK));
        Check.sentence("3: IllegalArgumentException if there is no such kind");
        refused(ARGUMENT, "append(0, %, 0, 0, 0)", outside(0, 4));
        Check.sentence("3: IllegalArgumentException if there is no such variable");
        for (int kind = 0; kind <= 4; kind++) {
            refused(ARGUMENT, "append(0, " + kind + ", %, 0, 0)", outside(0, LAST_VARIABLE));
        }
        for (int kind = 1; kind <= 4; kind++) {
            refused(ARGUMENT, "append(0, " + kind + ", 0, %, 0)", outside(0, LAST_VARIABLE));
        }
        for (int kind = 2; kind <= 4; kind++) {
            refused(ARGUMENT, "append(0, " + kind + ", 0, 0, %)", outside(0, LAST_VARIABLE));
        }
        Check.sentence("3: IllegalArgumentException if the constant is out of range");
        refused(ARGUMENT, "append(0, 0, 0, %, 0)", outside(-999, 999));
    }

    private static void appendToFullBlocks() {
        Check.sentence("3: IllegalStateException if the block has 8 instructions");
        for (int kind = 0; kind <= 4; kind++) {
            refusedFor(Samples::full, STATE, "append(0, " + kind + ", 0, 0, 0)");
        }
        refusedFor(Samples::full, STATE, "append(7, 0, 0, 0, 0)");
    }

    private static void removeLast() {
        Check.sentence("4: IndexOutOfBoundsException if there is no such block");
        refused(INDEX, "removeLast(%)", outside(0, LAST_BLOCK));
        refusedFor(Samples::full, INDEX, "removeLast(8)");
        Check.sentence("4: NoSuchElementException if the block has no instructions");
        refusedFor(SpillPlanner::new, ELEMENT, "removeLast(0)");
        refusedFor(RefusalTest::emptied, ELEMENT, "removeLast(2)");
    }

    /** Block 2 is empty again, and there is a plan. */
    private static SpillPlanner emptied() {
        SpillPlanner x = Samples.rich();
        for (int i = 0; i < 4; i++) {
            x.removeLast(2);
        }
        x.plan(2, true);
        return x;
    }

    private static void setEnd() {
        Check.sentence("5: IndexOutOfBoundsException if there is no such block");
        for (int kind = 0; kind <= 2; kind++) {
            refused(INDEX, "setEnd(%, " + kind + ", 0, 0, 0)", outside(0, LAST_BLOCK));
        }
        Check.sentence("5: IndexOutOfBoundsException if a block to which the end would go does not exist");
        refused(INDEX, "setEnd(0, 0, 0, %, 0)", outside(0, LAST_BLOCK));
        refused(INDEX, "setEnd(0, 1, 0, %, 0)", outside(0, LAST_BLOCK));
        refused(INDEX, "setEnd(0, 1, 0, 0, %)", outside(0, LAST_BLOCK));
        Check.sentence("5: IllegalArgumentException if there is no such kind");
        refused(ARGUMENT, "setEnd(0, %, 0, 0, 0)", outside(0, 2));
        Check.sentence("5: IllegalArgumentException if there is no such variable");
        refused(ARGUMENT, "setEnd(0, 1, %, 0, 0)", outside(0, LAST_VARIABLE));
        refused(ARGUMENT, "setEnd(0, 2, %, 0, 0)", outside(0, LAST_VARIABLE));
    }

    private static void setFrequencyAndInitial() {
        Check.sentence("6: IndexOutOfBoundsException if there is no such block");
        refused(INDEX, "setFrequency(%, 1)", outside(0, LAST_BLOCK));
        Check.sentence("6: IllegalArgumentException if frequency is not from 1 to 9999");
        refused(ARGUMENT, "setFrequency(0, %)", outside(1, 9999));
        Check.sentence("7: IllegalArgumentException if there is no such variable");
        refused(ARGUMENT, "setInitial(%, 5)", outside(0, LAST_VARIABLE));
    }

    private static void instructionAndBlock() {
        Check.sentence("8: IndexOutOfBoundsException if there is no such block");
        refused(INDEX, "instruction(%, 0, 0)", outside(0, LAST_BLOCK));
        Check.sentence("8: IndexOutOfBoundsException if there is no such instruction");
        refused(INDEX, "instruction(0, %, 0)", outside(0, 0));
        refused(INDEX, "instruction(2, %, 0)", outside(0, 3));
        refusedFor(SpillPlanner::new, INDEX, "instruction(0, 0, 0)");
        refusedFor(RefusalTest::emptied, INDEX, "instruction(2, 0, 0)");
        refusedFor(Samples::full, INDEX, "instruction(0, 8, 0)");
        refusedFor(Samples::full, INDEX, "instruction(0, -1, 0)");
        Check.sentence("8: IllegalArgumentException if what is not valid");
        refused(ARGUMENT, "instruction(0, 0, %)", outside(0, 3));
        Check.sentence("9: IndexOutOfBoundsException if there is no such block");
        refused(INDEX, "block(%, 0)", outside(0, LAST_BLOCK));
        Check.sentence("9: IllegalArgumentException if what is not valid");
        refused(ARGUMENT, "block(0, %)", outside(0, 5));
    }

    private static void live() {
        Check.sentence("10: IndexOutOfBoundsException if there is no such block");
        refused(INDEX, "live(%, 0)", outside(0, LAST_BLOCK));
        Check.sentence("10: IndexOutOfBoundsException if there is no such point");
        refused(INDEX, "live(0, %)", outside(0, 1));
        refused(INDEX, "live(2, %)", outside(0, 4));
        refusedFor(SpillPlanner::new, INDEX, "live(0, 1)");
        refusedFor(Samples::full, INDEX, "live(7, 9)");
        refusedFor(Samples::full, INDEX, "live(7, -1)");
    }

    private static void conflictsAndLoop() {
        Check.sentence("11: IllegalArgumentException if there is no such variable");
        refused(ARGUMENT, "conflicts(%)", outside(0, LAST_VARIABLE));
        Check.sentence("14: IndexOutOfBoundsException if there is no such loop");
        refused(INDEX, "loop(%, 0)", outside(0, 0));
        refusedFor(SpillPlanner::new, INDEX, "loop(0, 0)");
        Check.sentence("14: IllegalArgumentException if what is not valid");
        refused(ARGUMENT, "loop(0, %)", outside(0, 2));
    }

    private static void cost() {
        Check.sentence("15: IllegalArgumentException if there is no such variable");
        refused(ARGUMENT, "cost(%, false)", outside(0, LAST_VARIABLE));
        refused(ARGUMENT, "cost(%, true)", outside(0, LAST_VARIABLE));
        Check.sentence("15: UnsupportedOperationException if the variable cannot be recomputed");
        refused(UNSUPPORTED, "cost(%, true)", 0, 3, 4, 6, 11);
    }

    private static void plan() {
        Check.sentence("16: IllegalArgumentException if k is not from 1 to 12");
        refused(ARGUMENT, "plan(%, false)", outside(1, 12));
        refused(ARGUMENT, "plan(%, true)", outside(1, 12));
        refusedFor(Samples::richWithoutPlan, ARGUMENT, "plan(0, true)");
        refusedFor(Samples::richWithoutPlan, ARGUMENT, "plan(13, true)");
    }

    private static void homeAndPlanned() {
        Check.sentence("17: IllegalArgumentException if there is no such variable");
        refused(ARGUMENT, "home(%, 0)", outside(0, LAST_VARIABLE));
        Check.sentence("17: IllegalArgumentException if what is not valid");
        refused(ARGUMENT, "home(0, %)", outside(0, 2));
        Check.sentence("17: IllegalStateException if there is no plan");
        for (int what = 0; what <= 2; what++) {
            refusedFor(Samples::richWithoutPlan, STATE, "home(0, " + what + ")");
            refusedFor(SpillPlanner::new, STATE, "home(11, " + what + ")");
        }
        Check.sentence("19: IllegalArgumentException if what is not valid");
        refused(ARGUMENT, "planned(%)", outside(0, 4));
        Check.sentence("19: IllegalStateException if there is no plan");
        for (int what = 0; what <= 4; what++) {
            refusedFor(Samples::richWithoutPlan, STATE, "planned(" + what + ")");
            refusedFor(SpillPlanner::new, STATE, "planned(" + what + ")");
        }
    }

    private static void promoted() {
        Check.sentence("18: IllegalArgumentException if there is no such variable");
        refused(ARGUMENT, "promoted(%, 0)", outside(0, LAST_VARIABLE));
        Check.sentence("18: IndexOutOfBoundsException if there is no such loop");
        refused(INDEX, "promoted(0, %)", outside(0, 0));
        Check.sentence("18: IllegalStateException if there is no plan");
        refusedFor(Samples::richWithoutPlan, STATE, "promoted(0, 0)");
        Check.sentence("18: NoSuchElementException if the variable is not promoted in this loop");
        refused(ELEMENT, "promoted(%, 0)", 1, 2, 3, 4, 5, 6, 11);
    }

    private static void run() {
        Check.sentence("21: IllegalArgumentException if limit is out of range");
        refused(ARGUMENT, "run(%)", outside(1, 1000));
        Check.sentence("21: ArithmeticException if the limit is not enough");
        refused(ARITHMETIC, "run(%)", 1, 2, 11, 12);
        refusedFor(RefusalTest::endless, ARITHMETIC, "run(1000)");
    }

    private static void runPlanned() {
        Check.sentence("22: IllegalArgumentException if limit is not from 1 to 1000");
        refused(ARGUMENT, "runPlanned(%)", outside(1, 1000));
        Check.sentence("22: IllegalStateException if there is no plan");
        refusedFor(Samples::richWithoutPlan, STATE, "runPlanned(1)");
        refusedFor(Samples::richWithoutPlan, STATE, "runPlanned(1000)");
        refusedFor(SpillPlanner::new, STATE, "runPlanned(1)");
        Check.sentence("22: ArithmeticException if the limit is not enough");
        refused(ARITHMETIC, "runPlanned(%)", 1, 2, 11, 12);
        refusedFor(RefusalTest::endless, ARITHMETIC, "runPlanned(1000)");
    }

    /** The counts are of a run that ended, the program is one that does not end. */
    private static SpillPlanner endless() {
        SpillPlanner x = Samples.rich();
        x.setEnd(2, 0, 0, 1, 0);
        x.plan(1, true);
        return x;
    }

    private static void executedAndVisits() {
        Check.sentence("23: IllegalArgumentException if what is not valid");
        refused(ARGUMENT, "executed(%)", outside(0, 3));
        Check.sentence("24: IndexOutOfBoundsException if there is no such block");
        refused(INDEX, "visits(%)", outside(0, LAST_BLOCK));
        refusedFor(SpillPlanner::new, INDEX, "visits(1)");
    }

    private static void texts() {
        Check.sentence("26: IllegalStateException if the input has 80 characters");
        refusedFor(Samples::full, STATE, "feed('a')");
        refusedFor(Samples::full, STATE, "feed('x')");
        Check.sentence("27: IndexOutOfBoundsException if there is no such block");
        refused(INDEX, "read(%)", outside(0, LAST_BLOCK));
        refusedFor(Samples::full, INDEX, "read(8)");
        refusedFor(Samples::full, INDEX, "read(-1)");
        refusedFor(SpillPlanner::new, INDEX, "read(1)");
    }

    private static void snapshot() {
        Check.sentence("29: IllegalStateException if no snapshot was saved");
        refusedFor(SpillPlanner::new, STATE, "restoreSnapshot()");
        refusedFor(Samples::full, STATE, "restoreSnapshot()");
    }
}
