/** "If several exceptions apply, the one that is documented first is thrown." */
public final class OrderTest {
    private static final String INDEX = "throws.IndexOutOfBoundsException";
    private static final String ARGUMENT = "throws.IllegalArgumentException";
    private static final String STATE = "throws.IllegalStateException";

    public static void main(String[] args) {
        program();
        ends();
        analysis();
        plans();
        promotions();
        executions();
        texts();
        Check.end("OrderTest");
    }

    private static void all(SpillPlanner x, String want, String... calls) {
        for (String call : calls) {
            Check.due(call, Script.answer(x, call), want);
        }
    }

    private static void program() {
        Check.sentence("3: the block before kind, variable and constant");
        all(Samples.rich(), INDEX, "append(3, 5, 0, 0, 0)", "append(-1, -1, 0, 0, 0)",
            "append(3, 0, 12, 0, 0)", "append(-1, 0, 0, 1000, 0)", "append(3, 1, 0, 12, 0)",
            "append(-1, 2, 0, 0, -1)");
        all(Samples.full(), INDEX, "append(8, 0, 0, 0, 0)", "append(8, 0, 0, 1000, 0)");
        Check.sentence("3: kind, variable and constant before the 8 instructions");
        all(Samples.full(), ARGUMENT, "append(0, 5, 0, 0, 0)", "append(0, -1, 0, 0, 0)",
            "append(0, 0, 12, 0, 0)", "append(0, 0, -1, 0, 0)", "append(0, 0, 0, 1000, 0)",
            "append(0, 0, 0, -1000, 0)", "append(0, 1, 0, 12, 0)", "append(0, 4, 0, 0, 12)");
        Check.sentence("6: the block before the frequency");
        all(Samples.rich(), INDEX, "setFrequency(3, 0)", "setFrequency(-1, 10000)");
        Check.sentence("8: block and instruction before what");
        all(Samples.rich(), INDEX, "instruction(3, 0, 4)", "instruction(-1, 0, -1)",
            "instruction(0, 1, 4)", "instruction(0, -1, -1)");
        Check.sentence("9: the block before what");
        all(Samples.rich(), INDEX, "block(3, 6)", "block(-1, -1)");
    }

    private static void ends() {
        Check.sentence("5: the blocks before kind and variable");
        all(Samples.rich(), INDEX, "setEnd(3, 3, 0, 0, 0)", "setEnd(-1, -1, 0, 0, 0)",
            "setEnd(3, 1, 12, 0, 0)", "setEnd(3, 2, 12, 0, 0)", "setEnd(0, 1, 12, 3, 0)",
            "setEnd(0, 1, -1, 0, 3)", "setEnd(0, 1, 12, -1, -1)");
        Check.sentence("5: an end of no kind goes to no block");
        all(Samples.rich(), ARGUMENT, "setEnd(0, 3, 0, 3, 3)", "setEnd(0, -1, 0, -1, -1)");
    }

    private static void analysis() {
        Check.sentence("14: the loop before what");
        all(Samples.rich(), INDEX, "loop(1, 3)", "loop(-1, -1)");
        all(new SpillPlanner(), INDEX, "loop(0, 3)");
        Check.sentence("15: the variable before recomputing");
        all(Samples.rich(), ARGUMENT, "cost(12, true)", "cost(-1, true)");
    }

    private static void plans() {
        Check.sentence("17: variable and what before the plan");
        all(Samples.richWithoutPlan(), ARGUMENT, "home(12, 0)", "home(-1, 0)", "home(0, 3)",
            "home(0, -1)", "home(12, 3)");
        Check.sentence("19: what before the plan");
        all(Samples.richWithoutPlan(), ARGUMENT, "planned(5)", "planned(-1)");
    }

    private static void promotions() {
        Check.sentence("18: the variable before the loop");
        all(Samples.rich(), ARGUMENT, "promoted(12, 1)", "promoted(-1, -1)");
        Check.sentence("18: the variable before the plan");
        all(Samples.richWithoutPlan(), ARGUMENT, "promoted(12, 0)", "promoted(-1, 1)");
        Check.sentence("18: the loop before the plan");
        all(Samples.richWithoutPlan(), INDEX, "promoted(0, 1)", "promoted(0, -1)");
        all(new SpillPlanner(), INDEX, "promoted(0, 0)");
        Check.sentence("18: the loop before the promotion");
        all(Samples.rich(), INDEX, "promoted(1, 1)", "promoted(1, -1)");
        Check.sentence("18: the plan before the promotion");
        all(Samples.richWithoutPlan(), STATE, "promoted(1, 0)");
    }

    private static void executions() {
        Check.sentence("21: the range before what is not enough");
        all(Samples.rich(), ARGUMENT, "run(0)", "run(-1)");
        Check.sentence("22: the range before the plan");
        all(Samples.richWithoutPlan(), ARGUMENT, "runPlanned(0)", "runPlanned(1001)");
        Check.sentence("22: the range before what is not enough");
        all(Samples.rich(), ARGUMENT, "runPlanned(0)", "runPlanned(-1)");
        Check.sentence("22: the plan before what is not enough");
        all(Samples.richWithoutPlan(), STATE, "runPlanned(12)");
    }

    private static void texts() {
        Check.sentence("27: the block before the text, whose fault stays in the input");
        SpillPlanner x = new SpillPlanner();
        Texts.feed(x, "stopp");
        Script.due(x, "read(1) = throws IndexOutOfBoundsException; read(0) = -104");
    }
}
