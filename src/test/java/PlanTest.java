import java.util.NoSuchElementException;

/** Promises 16 to 20: the plan, what it says, and the least number of registers. */
public final class PlanTest {
    private static final Class<IndexOutOfBoundsException> INDEX = IndexOutOfBoundsException.class;
    private static final Class<IllegalArgumentException> ARGUMENT = IllegalArgumentException.class;
    private static final Class<IllegalStateException> STATE = IllegalStateException.class;
    private static final Class<NoSuchElementException> ELEMENT = NoSuchElementException.class;

    public static void main(String[] args) {
        everythingInRegisters();
        oneVariableInMemory();
        recomputedInstead();
        lowestOfEqualCosts();
        sharedSlots();
        promotionInALoop();
        promotionInNestedLoops();
        promotionAtTheEntry();
        noPromotionWithoutGain();
        planReplacesPlan();
        refusals();
        enough();
        Check.end("PlanTest");
    }

    private static void homeIs(SpillPlanner x, int v, int place, int colour, int slot) {
        Check.gives("home(" + v + ", 0)", place, () -> x.home(v, 0));
        Check.gives("home(" + v + ", 1)", colour, () -> x.home(v, 1));
        Check.gives("home(" + v + ", 2)", slot, () -> x.home(v, 2));
    }

    private static void plannedIs(SpillPlanner x, int... due) {
        for (int what = 0; what < due.length; what++) {
            int w = what;
            Check.gives("planned(" + w + ")", due[w], () -> x.planned(w));
        }
    }

    private static void everythingInRegisters() {
        SpillPlanner x = Samples.busyBehindLoop();
        Check.gives("plan(3, false)", 0, () -> x.plan(3, false));
        homeIs(x, 0, 0, 0, -1);
        homeIs(x, 1, 0, 1, -1);
        homeIs(x, 2, 0, 2, -1);
        homeIs(x, 3, 0, 1, -1);
        homeIs(x, 4, 0, 0, -1);
        homeIs(x, 5, 0, 1, -1);
        homeIs(x, 6, -1, -1, -1);
        plannedIs(x, 3, 0, 0, 0, 0);
    }

    private static void oneVariableInMemory() {
        SpillPlanner x = Samples.busyBehindLoop();
        Check.gives("plan(1, false)", 2, () -> x.plan(1, false));
        homeIs(x, 0, 1, -1, 0);
        homeIs(x, 1, 1, -1, 1);
        homeIs(x, 2, 0, 0, -1);
        homeIs(x, 3, 0, 0, -1);
        homeIs(x, 5, 0, 0, -1);
        plannedIs(x, 1, 2, 0, 0, 348 + 600);
    }

    private static void recomputedInstead() {
        SpillPlanner x = Samples.busyBehindLoop();
        Check.gives("plan(2, true)", 0, () -> x.plan(2, true));
        homeIs(x, 0, 0, 0, -1);
        homeIs(x, 1, 2, -1, -1);
        homeIs(x, 2, 0, 1, -1);
        plannedIs(x, 2, 0, 1, 0, 100);
    }

    private static void lowestOfEqualCosts() {
        SpillPlanner x = Texts.program("a=a*b;stop a", "stop l");
        Check.gives("plan(1, false)", 1, () -> x.plan(1, false));
        homeIs(x, 0, 0, 0, -1);
        homeIs(x, 1, 1, -1, 0);
        SpillPlanner y = Texts.program("c=a*b;stop c");
        y.plan(1, false);
        homeIs(y, 0, 1, -1, 0);
        homeIs(y, 1, 0, 0, -1);
        homeIs(y, 2, 0, 0, -1);
    }

    private static void sharedSlots() {
        SpillPlanner x = Samples.straight();
        Check.gives("plan(1, false)", 4, () -> x.plan(1, false));
        homeIs(x, 0, 1, -1, 0);
        homeIs(x, 1, 0, 0, -1);
        homeIs(x, 2, 1, -1, 1);
        homeIs(x, 3, 1, -1, 2);
        homeIs(x, 4, 1, -1, 0);
        homeIs(x, 5, 0, 0, -1);
        plannedIs(x, 1, 3, 0, 0, 9 + 6 + 6 + 3);
    }

    private static void promotionInALoop() {
        SpillPlanner x = Samples.busyBehindLoop();
        Check.gives("plan(2, false)", 1, () -> x.plan(2, false));
        homeIs(x, 0, 1, -1, 0);
        homeIs(x, 5, 0, 0, -1);
        Check.gives("a beside f", 1, () -> x.promoted(0, 0));
        Check.refuses("f is in a register", ELEMENT, () -> x.promoted(5, 0));
        plannedIs(x, 2, 1, 0, 1, 348 - 27);
    }

    private static void promotionInNestedLoops() {
        SpillPlanner x = Samples.nestedLoops();
        Check.gives("plan(3, false)", 2, () -> x.plan(3, false));
        Check.gives("f in the inner loop, which is more frequent", 1, () -> x.promoted(5, 1));
        Check.refuses("f not in the outer loop too", ELEMENT, () -> x.promoted(5, 0));
        Check.gives("g in the outer loop, with another colour", 2, () -> x.promoted(6, 0));
        Check.refuses("g not in the inner loop", ELEMENT, () -> x.promoted(6, 1));
        plannedIs(x, 3, 2, 0, 2, 333 + 15123 - 270 - 87);
    }

    private static void promotionAtTheEntry() {
        SpillPlanner x = Samples.loopAtEntry();
        Check.gives("plan(2, false)", 1, () -> x.plan(2, false));
        Check.gives("a", 1, () -> x.promoted(0, 0));
        plannedIs(x, 2, 1, 0, 1, 336 - 18);
    }

    private static void noPromotionWithoutGain() {
        SpillPlanner x = Samples.busyBehindLoop();
        // What a wins in block 1 is now just what the load costs on the way from block 0.
        x.setFrequency(0, 10);
        x.plan(2, false);
        Check.refuses("a gains nothing", ELEMENT, () -> x.promoted(0, 0));
        x.setFrequency(0, 9);
        x.plan(2, false);
        Check.gives("a gains 3", 1, () -> x.promoted(0, 0));
    }

    private static void planReplacesPlan() {
        SpillPlanner x = Samples.busyBehindLoop();
        x.plan(1, false);
        x.plan(2, false);
        x.plan(12, true);
        plannedIs(x, 12, 0, 0, 0, 0);
        Check.refuses("nothing is promoted now", ELEMENT, () -> x.promoted(0, 0));
    }

    private static void refusals() {
        SpillPlanner x = Texts.program("if a 0 1", "stop a");
        Check.refuses("home(12, 0)", ARGUMENT, () -> x.home(12, 0));
        Check.refuses("home(0, 3) before the plan", ARGUMENT, () -> x.home(0, 3));
        Check.refuses("home(0, 0) without a plan", STATE, () -> x.home(0, 0));
        Check.refuses("promoted(12, 9)", ARGUMENT, () -> x.promoted(12, 9));
        Check.refuses("promoted(0, 1) before the plan", INDEX, () -> x.promoted(0, 1));
        Check.refuses("promoted(0, 0) without a plan", STATE, () -> x.promoted(0, 0));
        Check.refuses("planned(5) before the plan", ARGUMENT, () -> x.planned(5));
        Check.refuses("planned(-1)", ARGUMENT, () -> x.planned(-1));
        Check.refuses("planned(0) without a plan", STATE, () -> x.planned(0));
        Check.refuses("plan(0, true)", ARGUMENT, () -> x.plan(0, true));
        Check.refuses("plan(13, true)", ARGUMENT, () -> x.plan(13, true));
        Check.refuses("a refused plan is none", STATE, () -> x.planned(0));
        Check.gives("plan(1, true)", 0, () -> x.plan(1, true));
        Check.refuses("home(-1, 0)", ARGUMENT, () -> x.home(-1, 0));
        Check.refuses("home(0, -1)", ARGUMENT, () -> x.home(0, -1));
        Check.refuses("promoted(-1, 0)", ARGUMENT, () -> x.promoted(-1, 0));
        Check.refuses("promoted(0, -1)", INDEX, () -> x.promoted(0, -1));
        Check.refuses("promoted(0, 0)", ELEMENT, () -> x.promoted(0, 0));
    }

    private static void enough() {
        SpillPlanner x = Samples.nestedLoops();
        x.plan(2, false);
        Check.gives("nested loops", 4, x::enough);
        Check.gives("the plan does not change", 2, () -> x.planned(0));
        SpillPlanner all = Texts.program("a=a+b;a=c+d;a=e+f;a=g+h;a=i+j;a=k+l;stop a");
        Check.gives("all variables are live at the entry", 12, all::enough);
        SpillPlanner none = Texts.program("go 0");
        Check.gives("a plan has a register", 1, none::enough);
        // In ascending order a and b get 0, c meets a, and d meets both b and c.
        SpillPlanner more = Texts.program("a=1;c=2;c=c+a;d=3;d=d+c;b=4;b=b+d;stop b");
        Check.gives("two are live at most", 2, more::pressure);
        Check.gives("but three registers are needed", 3, more::enough);
        Check.gives("no variable in memory", 0, () -> more.plan(3, false));
        Check.gives("with one less there is one", 1, () -> more.plan(2, false));
    }
}
