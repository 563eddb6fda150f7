/** Programs whose plans and executions are worked out by hand. */
final class Samples {
    private Samples() {
    }

    /** Two registers are too few behind the loop, but within it one is free for a. */
    static SpillPlanner busyBehindLoop() {
        SpillPlanner x = Texts.program("f=1;go 1", "a=a-f;if a 1 2", "b=7;c=9;d=b*c;e=d+a;stop e");
        x.setFrequency(1, 5);
        x.setFrequency(2, 100);
        x.setInitial(0, 3);
        return x;
    }

    /** Three registers are too few in block 4; f and g go out, each promoted in a loop. */
    static SpillPlanner nestedLoops() {
        SpillPlanner x = Texts.program("f=1;go 1", "a=g;go 2", "a=a-f;if a 2 3", "g=g-f;if g 1 4",
            "b=7;c=9;d=b*c;e=d+a;h=e+g;stop h");
        x.setFrequency(1, 10);
        x.setFrequency(2, 100);
        x.setFrequency(3, 10);
        x.setFrequency(4, 5000);
        x.setInitial(6, 2);
        return x;
    }

    /** The loop's header is block 0, so that a is loaded at the entry. */
    static SpillPlanner loopAtEntry() {
        SpillPlanner x = Texts.program("a=a-f;if a 0 1", "b=7;c=9;d=b*c;e=d+a;stop e");
        x.setFrequency(0, 3);
        x.setFrequency(1, 100);
        x.setInitial(0, 2);
        x.setInitial(5, 1);
        return x;
    }

    /** With one register a, c, d and e are in memory, and the scratch registers change hands. */
    static SpillPlanner straight() {
        SpillPlanner x = Texts.program("d=a+b;e=c+a;f=b+d;stop f");
        x.setInitial(0, 1);
        x.setInitial(1, 2);
        x.setInitial(2, 3);
        return x;
    }
}
