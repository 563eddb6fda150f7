import java.util.function.Consumer;

/** Which calls discard the plan, and which leave it alone. */
public final class DiscardTest {
    public static void main(String[] args) {
        changes();
        changesThatChangeNothing();
        faults();
        questions();
        refusals();
        Check.end("DiscardTest");
    }

    private static void discards(Consumer<SpillPlanner> change) {
        SpillPlanner x = Samples.rich();
        change.accept(x);
        Script.due(x, "planned(0) = throws IllegalStateException;"
            + " home(0, 0) = throws IllegalStateException;"
            + " runPlanned(100) = throws IllegalStateException");
    }

    private static void discards(String call) {
        discards(x -> Check.isTrue(call + " is not refused",
            !Script.answer(x, call).startsWith("throws")));
    }

    private static void changes() {
        Check.sentence("Exceptions: each call that can change the program discards the plan");
        discards("clear(2)");
        discards("append(0, 0, 6, 1, 0)");
        discards("removeLast(0)");
        discards("setEnd(0, 1, 5, 0, 2)");
        discards(x -> Check.gives("read(0)", 1, () -> readRest(x, 'd')));
        discards("restoreSnapshot()");
        Check.sentence("Exceptions: each call that can change a frequency discards the plan");
        discards("setFrequency(0, 2)");
        discards("profile()");
        Check.sentence("Exceptions: each call that can change an initial value discards the plan");
        discards("setInitial(0, 4)");
    }

    private static int readRest(SpillPlanner x, char last) {
        x.feed(last);
        return x.read(0);
    }

    private static void changesThatChangeNothing() {
        Check.sentence("Exceptions: .. discards the plan, also if it changes nothing");
        discards("setEnd(0, 0, 0, 1, 0)");
        discards("setFrequency(0, 1)");
        discards("setInitial(0, 3)");
        discards(x -> {
            x.profile();
            x.plan(2, false);
            Check.gives("a second profile()", 0, x::profile);
        });
        discards(x -> {
            x.read(2);
            x.plan(2, false);
            Check.gives("the same text", 1, () -> Texts.read(x, 0, "f=1;go 1"));
        });
        discards(x -> {
            x.saveSnapshot();
            Check.gives("restoreSnapshot() at once", 3, x::restoreSnapshot);
        });
        discards(x -> {
            x.clear(1);
            x.plan(2, false);
            Check.gives("clear(1) again", 1, () -> x.clear(1));
        });
    }

    private static void keeps(SpillPlanner x) {
        Script.due(x, "planned(0) = 2; home(0, 0) = 1; promoted(0, 0) = 1; runPlanned(13) = 63");
    }

    private static void faults() {
        Check.sentence("Exceptions: .. and does not return an error code discards the plan");
        SpillPlanner x = Samples.rich();
        Check.gives("a text at fault", -109, () -> readRest(x, 'm'));
        keeps(x);
        Check.gives("an empty text", -100, () -> x.read(0));
        keeps(x);
    }

    private static void questions() {
        Check.sentence("16: only another plan takes the place of an earlier one");
        String[] calls = {"instruction(0, 0, 0)", "block(0, 0)", "live(0, 0)", "conflicts(0)",
            "pressure()", "loops()", "loop(0, 0)", "cost(0, false)", "home(0, 0)", "promoted(0, 0)",
            "planned(4)", "run(100)", "runPlanned(100)", "executed(0)", "visits(0)", "feed('d')",
            "saveSnapshot()"};
        SpillPlanner x = Samples.rich();
        for (String call : calls) {
            Check.isTrue(call + " is not refused", !Script.answer(x, call).startsWith("throws"));
            keeps(x);
        }
        Check.sentence("20: enough: the plan does not change");
        String before = State.of(x, State.Part.PLAN);
        Check.gives("enough()", 3, x::enough);
        Check.due("the plan", State.of(x, State.Part.PLAN), before);
        keeps(x);
        Check.sentence("16: makes a plan, in place of an earlier one");
        Script.due(x, "plan(3, false) = 0; planned(0) = 3; home(0, 0) = 0; planned(3) = 0;"
            + " promoted(0, 0) = throws NoSuchElementException; plan(2, false) = 1");
        keeps(x);
    }

    private static void refusals() {
        Check.sentence("Exceptions: a call that throws does not discard the plan");
        String[] calls = {"clear(0)", "append(0, 5, 0, 0, 0)", "removeLast(3)",
            "setEnd(0, 0, 0, 3, 0)", "setFrequency(0, 0)", "setInitial(12, 0)", "plan(13, false)",
            "read(3)", "run(1)", "runPlanned(1)"};
        SpillPlanner x = Samples.rich();
        for (String call : calls) {
            Check.isTrue(call + " is refused", Script.answer(x, call).startsWith("throws"));
            keeps(x);
        }
    }
}
