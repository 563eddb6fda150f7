/** The description's sentences on plans and promotions, each by a program worked out by hand. */
public final class PlanEdgesTest {
    private static final String ELEMENT = "throws NoSuchElementException";
    private static final String ALL_LIVE = "a=a+b;a=c+d;a=e+f;a=g+h;a=i+j;a=k+l;stop a";
    /** Block 2 of most programs here: b is dear, so that a, which is live beside it, goes out. */
    private static final String DEAR = "b=7;b=b*b;b=b+a;stop b";

    public static void main(String[] args) {
        usedVariables();
        colours();
        fewestAndMostRegisters();
        whoGoesOut();
        equalCosts();
        recomputing();
        slots();
        numbersOfThePlan();
        enough();
        gain();
        gainOfLoads();
        gainOfStores();
        gainOfStoresTowardsBlock0();
        gainAtTheEntry();
        leastGain();
        orderOfLoops();
        eachLoopHasItsTurn();
        orderOfVariables();
        presentVariables();
        loopsWithBlocksInCommon();
        loopsAroundEachOther();
        coloursOfTwoLoops();
        planOfTheProgramAsItIs();
        eightLoops();
        Check.end("PlanEdgesTest");
    }

    private static void usedVariables() {
        Check.sentence("Plan: a variable is used if it has a use or a definition");
        Script.due(Texts.program("b=1;stop a", "stop l"), "plan(12, false) = 0; home(0, 0) = 0;"
            + " home(1, 0) = 0; home(2, 0) = -1; home(10, 0) = -1; home(11, 0) = 0");
        Check.sentence("17: -1 if it is not used, not in a register, not in memory");
        Script.due(Texts.program("go 0"), "plan(1, true) = 0; home(0, 0) = -1; home(0, 1) = -1; home(0, 2) = -1");
    }

    private static void colours() {
        Check.sentence("Plan: the lowest number that no lower conflicting variable in registers has");
        Script.due(Texts.program("a=1;c=2;c=c+a;d=3;d=d+c;b=4;b=b+d;stop b"), "plan(12, false) = 0;"
            + " home(0, 1) = 0; home(1, 1) = 0; home(2, 1) = 1; home(3, 1) = 2");
        Check.sentence("Plan: .. from 0 on");
        SpillPlanner x = Texts.program(ALL_LIVE);
        x.plan(12, false);
        for (int v = 0; v < 12; v++) {
            Script.due(x, "home(" + v + ", 0) = 0; home(" + v + ", 1) = " + v + "; home(" + v + ", 2) = -1");
        }
    }

    private static void fewestAndMostRegisters() {
        Check.sentence("Plan: if all colours are less than k, this is finished");
        SpillPlanner x = Texts.program(ALL_LIVE);
        Script.due(x, "plan(12, false) = 0; plan(11, false) = 1; home(0, 0) = 0; home(1, 0) = 1;"
            + " home(2, 1) = 1; home(11, 1) = 10; planned(1) = 1; planned(4) = 6");
        Check.sentence("16: with one register all but one can be in memory");
        Script.due(x, "plan(1, false) = 11; home(0, 0) = 0; home(0, 1) = 0; planned(1) = 11; planned(4) = 66");
        for (int v = 1; v < 12; v++) {
            Script.due(x, "home(" + v + ", 0) = 1; home(" + v + ", 1) = -1; home(" + v + ", 2) = " + (v - 1));
        }
    }

    private static void whoGoesOut() {
        Check.sentence("Plan: of f and all variables that conflict with f, higher ones too");
        // b is f, and c, which conflicts with b alone, costs least; then b goes too.
        Script.due(Texts.program("a=1;a=a;a=a;b=2;b=a+b;c=3;stop b"), "cost(0, false) = 18; cost(1, false) = 12;"
            + " cost(2, false) = 3; plan(1, false) = 2; home(0, 0) = 0; home(1, 0) = 1; home(2, 0) = 1;"
            + " home(1, 2) = 0; home(2, 2) = 1; planned(4) = 15");
        Check.sentence("Plan: .. but none that does not conflict with f");
        Script.due(Texts.program("d=9;a=1;b=2;b=a+b;stop b"), "cost(3, false) = 3; plan(1, false) = 1;"
            + " home(0, 0) = 1; home(1, 0) = 0; home(3, 0) = 0");
        Check.sentence("Plan: f is the lowest variable whose colour is not less than k");
        // Both b and c are over because of a. For b it is a that goes out; for c it would be c.
        Script.due(Texts.program("a=1;b=2;b=b*b;b=b*b;c=3;stop a"), "cost(0, false) = 6;"
            + " cost(1, false) = 15; cost(2, false) = 3; plan(1, false) = 1; home(0, 0) = 1;"
            + " home(1, 1) = 0; home(2, 1) = 0");
    }

    private static void equalCosts() {
        Check.sentence("Plan: of several with the least cost the lowest one goes out");
        Script.due(Texts.program("c=a*b;stop c"), "plan(1, false) = 1; home(0, 0) = 1; home(1, 0) = 0");
        // f is b; c costs the same and is higher, and a costs more.
        Script.due(Texts.program("a=1;a=a;b=2;a=a+b;c=3;c=c;stop b"), "cost(0, false) = 15; cost(1, false) = 9;"
            + " cost(2, false) = 9; plan(1, false) = 1; home(0, 0) = 0; home(1, 0) = 1; home(2, 0) = 0");
    }

    private static SpillPlanner constantWithUses(int uses) {
        return Texts.program("a=5;c=a*b;" + "c=a*c;".repeat(uses - 1) + "stop c");
    }

    private static void recomputing() {
        Check.sentence("Plan: recomputed if allowed and possible; its cost is meant accordingly");
        Script.due(constantWithUses(4), "cost(0, true) = 4; cost(1, false) = 6; plan(1, true) = 0;"
            + " home(0, 0) = 2; home(0, 1) = -1; home(0, 2) = -1; home(1, 0) = 0; planned(2) = 1;"
            + " planned(4) = 4");
        Check.sentence("Plan: .. kept in memory where recomputing is not allowed");
        Script.due(constantWithUses(4), "cost(0, false) = 15; plan(1, false) = 2; home(0, 0) = 1;"
            + " home(1, 0) = 1; planned(2) = 0; planned(4) = 21");
        Check.sentence("Plan: a cost of recomputing and one of memory are compared as they are");
        Script.due(constantWithUses(6), "cost(0, true) = 6; cost(1, false) = 6; plan(1, true) = 0;"
            + " home(0, 0) = 2; home(1, 0) = 0");
        Script.due(constantWithUses(7), "cost(0, true) = 7; cost(1, false) = 6; plan(1, true) = 1;"
            + " home(0, 0) = 2; home(1, 0) = 1; planned(4) = 13");
        Check.sentence("Plan: .. kept in memory where it cannot be recomputed");
        Script.due(Texts.program(ALL_LIVE), "plan(1, true) = 11; planned(2) = 0");
        Check.sentence("19: the costs of all recomputed variables are summed");
        Script.due(Texts.program("a=-999;b=999;c=a*b;c=c+a;c=c+b;stop c"), "plan(1, true) = 0; planned(2) = 2;"
            + " cost(0, true) = 2; cost(1, true) = 2; planned(4) = 4");
        Check.sentence("Plan: a variable that fits stays in a register though it could be recomputed");
        Script.due(Texts.program("a=5;stop a"), "plan(1, true) = 0; home(0, 0) = 0; planned(2) = 0");
    }

    private static void slots() {
        Check.sentence("Plan: slots: the lowest number that no lower conflicting variable in memory has");
        SpillPlanner x = Samples.straight();
        Script.due(x, "plan(1, false) = 4; home(0, 2) = 0; home(2, 2) = 1; home(3, 2) = 2; home(4, 2) = 0;"
            + " planned(1) = 3; home(1, 2) = -1");
        Check.sentence("Plan: variables in registers take no slot");
        Script.due(Texts.program("a=1;b=2;b=a+b;stop b"), "plan(1, false) = 1; home(0, 2) = 0; home(1, 2) = -1;"
            + " planned(1) = 1");
    }

    private static void numbersOfThePlan() {
        Check.sentence("19: slots, recomputed variables, promotions, the sum of the costs minus the gains");
        SpillPlanner x = Samples.nestedLoops();
        Script.due(x, "plan(3, false) = 2; planned(0) = 3; planned(1) = 2; planned(2) = 0; planned(3) = 2;"
            + " planned(4) = " + (333 + 15123 - 270 - 87));
        Check.sentence("19: .. of the latest plan alone");
        Script.due(x, "plan(12, false) = 0; planned(0) = 12; planned(1) = 0; planned(3) = 0; planned(4) = 0");
    }

    private static void enough() {
        Check.sentence("20: the least number of registers that keeps no variable in memory");
        String[] texts = {"go 0", "stop a", "c=a*b;stop c", "d=a*b;d=d*c;stop d", ALL_LIVE,
            "a=1;c=2;c=c+a;d=3;d=d+c;b=4;b=b+d;stop b"};
        int[] due = {1, 1, 2, 3, 12, 3};
        for (int i = 0; i < texts.length; i++) {
            SpillPlanner x = Texts.program(texts[i]);
            Script.due(x, "enough() = " + due[i] + "; planned(0) = throws IllegalStateException; plan("
                + due[i] + ", false) = 0");
            if (due[i] > 1) {
                Check.isTrue("one less is not enough", x.plan(due[i] - 1, false) > 0);
            }
        }
        Check.sentence("20: without recomputing");
        Script.due(Texts.program("a=5;b=7;c=a*b;stop c"), "plan(1, true) = 0; enough() = 2; planned(0) = 1");
    }

    /** With one register a is in memory and b not; within the loop the register is free. */
    private static SpillPlanner looped(String... blocks) {
        SpillPlanner x = Texts.program(blocks);
        Texts.setFrequencies(x, 1, 5, 100);
        return x;
    }

    private static void gain() {
        Check.sentence("Promotion: 3 times the frequencies of all uses and definitions in the loop, minus ..");
        // Three uses and definitions in block 1, a load from block 0, a store from block 1.
        Script.due(looped("go 1", "a=a+a;if a 1 2", DEAR), "cost(0, false) = 348; plan(1, false) = 1;"
            + " home(0, 0) = 1; home(1, 0) = 0; promoted(0, 0) = 0; planned(3) = 1; planned(4) = "
            + (348 - (45 - 3 - 15)));
    }

    private static void gainOfLoads() {
        Check.sentence("Promotion: minus the blocks outside that go to the header, if it is live there");
        Script.due(looped("go 1", "a=3;a=a+a;if a 1 2", DEAR), "cost(0, false) = 360; plan(1, false) = 1;"
            + " promoted(0, 0) = 0; planned(4) = " + (360 - (60 - 15)));
        Check.sentence("Promotion: each such block, whether it can be reached or not");
        SpillPlanner two = looped("if a 1 3", "a=a+a;if a 1 2", DEAR, "go 1");
        two.setFrequency(3, 2);
        Script.due(two, "cost(0, false) = 351; plan(1, false) = 1; planned(3) = 1; planned(4) = "
            + (351 - (45 - 3 - 6 - 15)));
        SpillPlanner unreachable = looped("go 1", "a=a+a;if a 1 2", DEAR, "go 1");
        unreachable.setFrequency(3, 2);
        Script.due(unreachable, "plan(1, false) = 1; planned(3) = 1; planned(4) = "
            + (348 - (45 - 3 - 6 - 15)));
        Check.sentence("Promotion: each block counts once");
        Script.due(looped("if a 1 1", "a=a+a;if a 1 2", DEAR), "cost(0, false) = 351; plan(1, false) = 1;"
            + " planned(3) = 1; planned(4) = " + (351 - (45 - 3 - 15)));
    }

    private static void gainOfStores() {
        Check.sentence("Promotion: minus the blocks that go outside, if it is defined in the loop");
        Script.due(looped("go 1", "if a 1 2", DEAR), "cost(0, false) = 318; plan(1, false) = 1;"
            + " promoted(0, 0) = 0; planned(4) = " + (318 - (15 - 3)));
        Check.sentence("Promotion: .. to a block at whose beginning it is live");
        Script.due(busyBefore("c=1;stop c"), "cost(0, false) = 1080; plan(1, false) = 1; home(0, 0) = 1;"
            + " promoted(0, 0) = 0; planned(4) = " + (1080 - (180 - 3)));
        Script.due(busyBefore("stop a"), "cost(0, false) = 1083; plan(1, false) = 1; home(0, 0) = 1;"
            + " promoted(0, 0) = 0; planned(4) = " + (1083 - (180 - 3 - 60)));
    }

    /** Block 0 is busy, block 2 is the loop, and behind it comes the given block. */
    private static SpillPlanner busyBefore(String last) {
        SpillPlanner x = Texts.program("b=7;b=b*b;a=a+b;go 1", "go 2", "a=a+a;if a 2 3", last);
        Texts.setFrequencies(x, 100, 1, 20, 1);
        return x;
    }

    /** Block 1 is the loop, and leaves for block 0, which is busy. */
    private static void gainOfStoresTowardsBlock0() {
        Check.sentence("Promotion: .. also if that block is block 0");
        SpillPlanner x = Texts.program("b=7;b=b*b;b=b+a;go 2", "a=a+a;if a 1 0", "go 1");
        Texts.setFrequencies(x, 100, 20, 1);
        Script.due(x, "loops() = 2; cost(0, false) = 780; plan(1, false) = 1; home(0, 0) = 1;"
            + " promoted(0, 1) = 0; planned(3) = 1; planned(4) = " + (780 - (180 - 3 - 60)));
    }

    private static void gainAtTheEntry() {
        Check.sentence("Promotion: the entry of the program does not count for the gain");
        SpillPlanner x = Texts.program("a=a+a;if a 0 1", DEAR);
        Texts.setFrequencies(x, 5, 100);
        Script.due(x, "cost(0, false) = 360; plan(1, false) = 1; promoted(0, 0) = 0; planned(4) = "
            + (360 - (45 - 15)));
        Check.sentence("Promotion: .. neither as a definition in the loop");
        SpillPlanner used = Texts.program("if a 0 1", DEAR);
        Texts.setFrequencies(used, 5, 100);
        Script.due(used, "cost(0, false) = 330; plan(1, false) = 1; promoted(0, 0) = 0; planned(4) = "
            + (330 - 15));
    }

    private static void leastGain() {
        Check.sentence("Promotion: if the gain is greater than 0");
        SpillPlanner x = looped("go 1", "a=a+a;if a 1 2", DEAR);
        Script.due(x, "setFrequency(0, 9) = 1; plan(1, false) = 1; promoted(0, 0) = 0; planned(4) = "
            + (3 * (9 + 15 + 100) - 3));
        Script.due(x, "setFrequency(0, 10) = 9; plan(1, false) = 1; promoted(0, 0) = " + ELEMENT
            + "; planned(3) = 0; planned(4) = " + 3 * (10 + 15 + 100));
        Script.due(x, "setFrequency(0, 11) = 10; plan(1, false) = 1; promoted(0, 0) = " + ELEMENT);
    }

    private static void orderOfLoops() {
        String last = "b=7;c=9;d=8;d=d*c;d=d*b;e=d+a;stop e";
        Check.sentence("Promotion: loops in descending order of the frequencies of the headers");
        SpillPlanner outerFirst = Texts.program("f=1;go 1", "go 2", "a=a-f;if a 2 3", "if g 1 4", last);
        Texts.setFrequencies(outerFirst, 1, 6, 5, 1, 100);
        Script.due(outerFirst, "plan(3, false) = 1; promoted(0, 0) = 2; promoted(0, 1) = " + ELEMENT);
        Texts.setFrequencies(outerFirst, 1, 5, 6, 1, 100);
        Script.due(outerFirst, "plan(3, false) = 1; promoted(0, 0) = " + ELEMENT + "; promoted(0, 1) = 2");
        Check.sentence("Promotion: .. and for the same frequency in ascending order");
        Texts.setFrequencies(outerFirst, 1, 5, 5, 1, 100);
        Script.due(outerFirst, "plan(3, false) = 1; promoted(0, 0) = 2; promoted(0, 1) = " + ELEMENT);
        SpillPlanner innerFirst = Texts.program("f=1;go 2", "a=a-f;if a 1 3", "go 1", "if g 2 4", last);
        Texts.setFrequencies(innerFirst, 1, 5, 5, 1, 100);
        Script.due(innerFirst, "loop(0, 2) = 1; plan(3, false) = 1; promoted(0, 0) = 2; promoted(0, 1) = "
            + ELEMENT);
        Texts.setFrequencies(innerFirst, 1, 5, 6, 1, 100);
        Script.due(innerFirst, "plan(3, false) = 1; promoted(0, 0) = " + ELEMENT + "; promoted(0, 1) = 2");
    }

    private static void eachLoopHasItsTurn() {
        Check.sentence("Promotion: for each loop");
        SpillPlanner three = Texts.program("go 1", "a=a+a;if a 1 2", "a=a+a;if a 2 3", "a=a+a;if a 3 4", DEAR);
        Texts.setFrequencies(three, 1, 5, 6, 7, 100);
        Script.due(three, "plan(1, false) = 1; promoted(0, 0) = 0; promoted(0, 1) = 0; promoted(0, 2) = 0;"
            + " planned(3) = 3; planned(4) = " + (3 * (1 + 15 + 18 + 21 + 100) - 27 - 21 - 24));
        Check.sentence("Promotion: .. also where the frequencies of the headers are 1");
        SpillPlanner rare = Texts.program("go 1", "go 2", "a=a+a;if a 1 3", "go 4", "a=a+a;if a 3 5", DEAR);
        Texts.setFrequencies(rare, 1, 1, 5, 1, 5, 100);
        Script.due(rare, "plan(1, false) = 1; promoted(0, 0) = 0; promoted(0, 1) = 0; planned(3) = 2;"
            + " planned(4) = " + (3 * (1 + 15 + 15 + 100) - 27 - 15));
        Check.sentence("Promotion: .. and where they are 9999");
        Texts.setFrequencies(rare, 1, 9999, 5, 9999, 5, 100);
        Script.due(rare, "plan(1, false) = 1; promoted(0, 0) = 0; promoted(0, 1) = 0; planned(3) = 2");
    }

    /** a and j go out, h is live through the loop, and b is only behind it. */
    private static void orderOfVariables() {
        Check.sentence("Promotion: variables in ascending order, not by their gains");
        SpillPlanner x = looped("go 1", "a=a+a;j=j+j;j=j*j;if a 1 2",
            "b=7;b=b*h;b=b*h;b=b+a;b=b+j;stop b");
        Script.due(x, "cost(0, false) = 348; cost(9, false) = 363; cost(7, false) = 603; plan(2, false) = 2;"
            + " home(1, 1) = 0; home(7, 1) = 1; promoted(0, 0) = 0; planned(3) = 1; planned(4) = "
            + (348 + 363 - 27));
        Check.sentence("Promotion: if there is no colour less than k, it is not promoted");
        Script.due(x, "promoted(9, 0) = " + ELEMENT);
        Check.sentence("Promotion: the last colour less than k can be given");
        Script.due(Samples.rich(), "planned(0) = 2; home(5, 1) = 0; promoted(0, 0) = 1");
    }

    private static void presentVariables() {
        Check.sentence("Promotion: present is what is defined in the loop, though live at no beginning");
        Script.due(looped("go 1", "d=5;a=a+a;if a 1 2", DEAR), "plan(1, false) = 1; home(0, 0) = 1;"
            + " home(3, 1) = 0; promoted(0, 0) = " + ELEMENT);
        Script.due(Texts.program("go 1", "d=5;go 2", "a=a+a;if a 1 3", DEAR), "setFrequency(1, 5) = 1;"
            + " setFrequency(2, 5) = 1; setFrequency(3, 100) = 1; plan(1, false) = 1; home(0, 0) = 1;"
            + " home(3, 1) = 0; promoted(0, 0) = " + ELEMENT);
        Check.sentence("Promotion: present is what is live at the beginning of a block of the loop");
        Script.due(looped("go 1", "a=a+a;if a 1 2", "b=7;b=b*h;b=b*h;b=b+a;stop b"), "plan(2, false) = 1;"
            + " home(0, 0) = 1; home(1, 1) = 0; home(7, 1) = 1; promoted(0, 0) = 0");
        Check.sentence("Promotion: what is not present leaves its colour free");
        Script.due(looped("go 1", "a=a+a;if a 1 2", DEAR), "plan(1, false) = 1; home(1, 1) = 0; promoted(0, 0) = 0");
        Script.due(looped("go 1", "b=b+b;if b 1 2", "a=7;a=a*a;a=a+b;stop a"), "plan(1, false) = 1;"
            + " home(0, 1) = 0; home(1, 0) = 1; promoted(1, 0) = 0");
    }

    private static void loopsWithBlocksInCommon() {
        Check.sentence("Promotion: promoted in a loop that has a block in common keeps the colour");
        Script.due(Samples.nestedLoops(), "plan(3, false) = 2; promoted(5, 1) = 1; promoted(6, 0) = 2");
        Check.sentence("Promotion: .. in a loop without a common block it does not");
        SpillPlanner two = Texts.program("go 1", "a=a+a;if a 1 2", "j=j+j;if j 2 3",
            "b=7;b=b*b;b=b+a;b=b+j;stop b");
        Texts.setFrequencies(two, 1, 5, 5, 100);
        Script.due(two, "plan(1, false) = 2; home(0, 0) = 1; home(9, 0) = 1; promoted(0, 0) = 0;"
            + " promoted(9, 1) = 0; promoted(0, 1) = " + ELEMENT + "; promoted(9, 0) = " + ELEMENT);
        Check.sentence("Promotion: not promoted in a loop within this one, but in one beside it");
        SpillPlanner same = Texts.program("go 1", "a=a+a;if a 1 2", "a=a+a;if a 2 3", DEAR);
        Texts.setFrequencies(same, 1, 5, 5, 100);
        Script.due(same, "cost(0, false) = 393; plan(1, false) = 1; promoted(0, 0) = 0; promoted(0, 1) = 0;"
            + " planned(3) = 2; planned(4) = " + (393 - 27 - 15));
    }

    /** As in the order of loops, but with a second colour to spare. */
    private static void loopsAroundEachOther() {
        String last = "b=7;c=9;d=8;h=6;h=h*d;h=h*c;h=h*b;h=h+a;stop h";
        Check.sentence("Promotion: not if it is promoted in one that this one is within");
        SpillPlanner x = Texts.program("f=1;go 1", "go 2", "a=a-f;if a 2 3", "if g 1 4", last);
        Texts.setFrequencies(x, 1, 6, 5, 1, 100);
        Script.due(x, "plan(4, false) = 1; promoted(0, 0) = 2; promoted(0, 1) = " + ELEMENT + "; planned(3) = 1");
        Check.sentence("Promotion: not if it is promoted in a loop within this one");
        Texts.setFrequencies(x, 1, 5, 6, 1, 100);
        Script.due(x, "plan(4, false) = 1; promoted(0, 0) = " + ELEMENT + "; promoted(0, 1) = 2; planned(3) = 1");
        SpillPlanner y = Texts.program("f=1;go 2", "a=a-f;if a 1 3", "go 1", "if g 2 4", last);
        Texts.setFrequencies(y, 1, 5, 5, 1, 100);
        Script.due(y, "plan(4, false) = 1; promoted(0, 0) = 2; promoted(0, 1) = " + ELEMENT + "; planned(3) = 1");
    }

    /** In loop 1, where d is defined, a gets 1, in loop 2 it gets 0; j in loop 0 meets both. */
    private static void coloursOfTwoLoops() {
        Check.sentence("Promotion: a colour that no variable has in any loop with a block in common");
        SpillPlanner x = Texts.program("go 1", "j=j+j;go 2", "d=5;a=a+a;if a 2 3", "a=a+a;if a 3 4", "if j 1 5",
            "b=7;c=9;h=6;h=h*c;h=h*b;h=h+a;h=h+j;stop h");
        Texts.setFrequencies(x, 1, 5, 10, 10, 1, 100);
        x.setInitial(0, 1 << 30);
        x.setInitial(9, 1 << 31);
        Script.due(x, "cost(0, false) = 483; cost(9, false) = 336; plan(3, false) = 2; home(3, 1) = 0;"
            + " promoted(0, 1) = 1; promoted(0, 2) = 0; promoted(9, 0) = 2; planned(3) = 3; planned(4) = "
            + (483 + 336 - 45 - 30 - 27));
        Script.due(x, "runPlanned(40) = 378; executed(1) = 5; executed(2) = 3; run(40) = 378");
    }

    private static void planOfTheProgramAsItIs() {
        Check.sentence("16: the plan is one for the program as it is, not as it was");
        SpillPlanner present = looped("go 1", "d=5;a=a+a;if a 1 2", DEAR);
        Script.due(present, "plan(1, false) = 1; promoted(0, 0) = " + ELEMENT);
        Texts.read(present, 1, "a=a+a;if a 1 2");
        Texts.read(present, 2, "d=5;" + DEAR);
        Script.due(present, "plan(1, false) = 1; home(3, 1) = 0; promoted(0, 0) = 0");
        SpillPlanner defined = looped("go 1", "a=a+a;if a 1 2", DEAR);
        Script.due(defined, "plan(1, false) = 1; promoted(0, 0) = 0");
        Texts.read(defined, 1, "if a 1 2");
        Script.due(defined, "plan(1, false) = 1; promoted(0, 0) = 0; planned(4) = " + (318 - 12));
    }

    /**
     * Each block is a loop; in block 0 the register is b's, in each other one it is free for a. A
     * loop gains 3 times (2 of its own frequency minus that of the block before it).
     */
    private static void eightLoops() {
        Check.sentence("Promotion: for each loop, of which there are at most 8");
        SpillPlanner x = Texts.program("b=7;b=b*b;b=b*b;b=b*b;b=b+a;if a 0 1", "a=a+a;if a 1 2",
            "a=a+a;if a 2 3", "a=a+a;if a 3 4", "a=a+a;if a 4 5", "a=a+a;if a 5 6", "a=a+a;if a 6 7",
            "a=a+a;go 7");
        Texts.setFrequencies(x, 1000, 501, 251, 126, 64, 33, 17, 9);
        Script.due(x, "loops() = 8; plan(1, false) = 1; home(0, 0) = 1; promoted(0, 0) = " + ELEMENT
            + "; promoted(0, 8) = throws IndexOutOfBoundsException; planned(3) = 7;"
            + " runPlanned(1000) = throws ArithmeticException");
        for (int loop = 1; loop < 8; loop++) {
            Script.due(x, "promoted(0, " + loop + ") = 0");
        }
        int cost = 3 * (3 * 1000 + 3 * (501 + 251 + 126 + 64 + 33 + 17) + 2 * 9);
        Script.due(x, "cost(0, false) = " + cost + "; planned(4) = " + (cost - 3 * (2 + 1 + 1 + 2 + 2 + 1 + 1)));
    }
}
