/** Programs whose plans and executions are worked out by hand. */
final class Samples {
    private Samples() {
    }

    /** Two registers are too few behind the loop, but within it one is free for a. */
    static SpillPlanner busyBehindLoop() {
        SpillPlanner x = Texts.program("f=1;go 1", "a=a-f;if a 1 2", "b=7;c=9;d=b*c;e=d+a;stop e");
        x.setFrequency(1, 5);
        x.setFrequency(2, 100);
        x.setInitial(0, 3);
        return x;
    }

    /** Three registers are too few in block 4; f and g go out, each promoted in a loop. */
    static SpillPlanner nestedLoops() {
        SpillPlanner x = Texts.program("f=1;go 1", "a=g;go 2", "a=a-f;if a 2 3", "g=g-f;if g 1 4",
            "b=7;c=9;d=b*c;e=d+a;h=e+g;stop h");
        x.setFrequency(1, 10);
        x.setFrequency(2, 100);
        x.setFrequency(3, 10);
        x.setFrequency(4, 5000);
        x.setInitial(6, 2);
        return x;
    }

    /** The loop's header is block 0, so that a is loaded at the entry. */
    static SpillPlanner loopAtEntry() {
        SpillPlanner x = Texts.program("a=a-f;if a 0 1", "b=7;c=9;d=b*c;e=d+a;stop e");
        x.setFrequency(0, 3);
        x.setFrequency(1, 100);
        x.setInitial(0, 2);
        x.setInitial(5, 1);
        return x;
    }

    /** With one register a, c, d and e are in memory, and the scratch registers change hands. */
    static SpillPlanner straight() {
        SpillPlanner x = Texts.program("d=a+b;e=c+a;f=b+d;stop f");
        x.setInitial(0, 1);
        x.setInitial(1, 2);
        x.setInitial(2, 3);
        return x;
    }

    /**
     * An object in which every part of the state can be told from another one: three blocks, one
     * loop, a plan with a promotion, counts, a text that lacks its last letter, and a snapshot of
     * another program.
     */
    static SpillPlanner rich() {
        SpillPlanner x = Texts.program("b=2;stop b", "go 0");
        x.setFrequency(1, 7);
        x.setInitial(3, 33);
        x.saveSnapshot();
        Texts.write(x, "f=1;go 1", "a=a-f;if a 1 2", "b=7;c=9;d=b*c;e=d+a;stop e");
        Texts.setFrequencies(x, 1, 5, 100);
        x.setInitial(0, 3);
        x.setInitial(11, -11);
        x.plan(2, false);
        x.runPlanned(100);
        Texts.feed(x, "c=4;stop ");
        return x;
    }

    static SpillPlanner richWithoutPlan() {
        SpillPlanner x = rich();
        x.setFrequency(0, 1);
        return x;
    }

    /** Eight blocks of eight instructions, and 80 characters; no snapshot. */
    static SpillPlanner full() {
        SpillPlanner x = new SpillPlanner();
        x.clear(8);
        for (int b = 0; b < 8; b++) {
            for (int i = 0; i < 8; i++) {
                x.append(b, (b + i) % 5, (b + i) % 12, b + 1, i);
            }
            x.setEnd(b, b == 7 ? 2 : 0, b, b + 1, 0);
            x.setFrequency(b, 9999 - b);
        }
        x.setInitial(11, 7);
        x.plan(1, true);
        x.runPlanned(1000);
        Texts.feed(x, "c=4;stop d" + "x".repeat(70));
        return x;
    }
}
