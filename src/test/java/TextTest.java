/** Promises 26 and 27: the input and how it is read. */
public final class TextTest {
    private static final Class<IndexOutOfBoundsException> INDEX = IndexOutOfBoundsException.class;
    private static final Class<IllegalStateException> STATE = IllegalStateException.class;

    public static void main(String[] args) {
        feed();
        ends();
        instructions();
        lengths();
        faults();
        faultsOfBlocks();
        inputAfterwards();
        faultChangesNothing();
        Check.end("TextTest");
    }

    private static void feed() {
        SpillPlanner x = new SpillPlanner();
        for (int i = 1; i <= 80; i++) {
            int length = i;
            Check.gives("character " + i, length, () -> x.feed((char) (length * 800)));
        }
        Check.refuses("character 81", STATE, () -> x.feed('a'));
        Check.gives("at fault at once", -100, () -> x.read(0));
        Check.gives("there is room again", 1, () -> x.feed('a'));
    }

    private static void partIs(SpillPlanner x, int i, int kind, int target, int a, int b) {
        Check.gives("kind", kind, () -> x.instruction(0, i, 0));
        Check.gives("target", target, () -> x.instruction(0, i, 1));
        Check.gives("first", a, () -> x.instruction(0, i, 2));
        Check.gives("second", b, () -> x.instruction(0, i, 3));
    }

    private static void ends() {
        SpillPlanner x = new SpillPlanner();
        x.clear(8);
        x.setFrequency(0, 44);
        endIs(x, "go 7", 0, -1, 7, -1);
        endIs(x, "if l 0 7", 1, 11, 0, 7);
        endIs(x, "if i 1 1", 1, 8, 1, 1);
        endIs(x, "stop g", 2, 6, -1, -1);
        endIs(x, "go 0", 0, -1, 0, -1);
        Check.gives("the frequency stays", 44, () -> x.block(0, 5));
    }

    private static void endIs(SpillPlanner x, String text, int... due) {
        Check.gives(text, 0, () -> Texts.read(x, 0, text));
        for (int i = 0; i < due.length; i++) {
            int what = i + 1;
            Check.gives(text + ": " + what, due[i], () -> x.block(0, what));
        }
    }

    private static void instructions() {
        SpillPlanner x = new SpillPlanner();
        Check.gives("all kinds", 8,
            () -> Texts.read(x, 0, "a=0;b=-999;c=007;d=-0;e=l;g=a+b;i=g-i;l=i*i;stop l"));
        partIs(x, 0, 0, 0, 0, -1);
        partIs(x, 1, 0, 1, -999, -1);
        partIs(x, 2, 0, 2, 7, -1);
        partIs(x, 3, 0, 3, 0, -1);
        partIs(x, 4, 1, 4, 11, -1);
        partIs(x, 5, 2, 6, 0, 1);
        partIs(x, 6, 3, 8, 6, 8);
        partIs(x, 7, 4, 11, 8, 8);
        Check.gives("the text replaces all", 1, () -> Texts.read(x, 0, "c=12;stop a"));
        Check.gives("one instruction", 1, () -> x.block(0, 0));
        partIs(x, 0, 0, 2, 12, -1);
    }

    private static void lengths() {
        SpillPlanner x = new SpillPlanner();
        String eight = "a=1;a=1;a=1;a=1;a=1;a=1;a=1;a=1;";
        Check.gives("eight", 8, () -> Texts.read(x, 0, eight + "go 0"));
        Check.gives("a ninth", -132, () -> Texts.read(x, 0, eight + "a=1;go 0"));
        Check.gives("a ninth that begins as an end", -133, () -> Texts.read(x, 0, eight + "i=1;go 0"));
        Check.gives("eight and no end", -132, () -> Texts.read(x, 0, eight));
        String longest = "a=-999;b=-999;c=-999;d=-999;e=-999;f=-999;g=-999;h=-999;if a 0 0";
        Check.gives("the longest text", 8, () -> Texts.read(x, 0, longest));
        Check.gives("80 characters", -164, () -> Texts.read(x, 0, longest + "0123456789012345"));
    }

    private static void fault(SpillPlanner x, String text, int position) {
        Check.gives("'" + text + "'", -100 - position, () -> Texts.read(x, 0, text));
    }

    private static void faults() {
        SpillPlanner x = new SpillPlanner();
        fault(x, "", 0);
        fault(x, "m", 0);
        fault(x, "A=1;stop a", 0);
        fault(x, " stop a", 0);
        fault(x, ";", 0);
        fault(x, "a", 1);
        fault(x, "a1", 1);
        fault(x, "ab", 1);
        fault(x, "a=", 2);
        fault(x, "a=m", 2);
        fault(x, "a=;stop a", 2);
        fault(x, "a= 1", 2);
        fault(x, "a=+1", 2);
        fault(x, "a=-", 3);
        fault(x, "a=--1", 3);
        fault(x, "a=-b", 3);
        fault(x, "a=-;", 3);
        fault(x, "a=1", 3);
        fault(x, "a=1b", 3);
        fault(x, "a=1+b;", 3);
        fault(x, "a=1234;stop a", 5);
        fault(x, "a=-1234;stop a", 6);
        fault(x, "a=b", 3);
        fault(x, "a=bc", 3);
        fault(x, "a=b/c", 3);
        fault(x, "a=b+", 4);
        fault(x, "a=b+1", 4);
        fault(x, "a=b-m", 4);
        fault(x, "a=b*c", 5);
        fault(x, "a=b*c*d", 5);
        fault(x, "a=b*c;", 6);
        fault(x, "a=b*c;;", 6);
        fault(x, "g", 1);
        fault(x, "gx", 1);
        fault(x, "go", 2);
        fault(x, "go0", 2);
        fault(x, "go  0", 3);
        fault(x, "go 0;", 4);
        fault(x, "go 00", 4);
        fault(x, "i", 1);
        fault(x, "if", 2);
        fault(x, "if=", 2);
        fault(x, "if ", 3);
        fault(x, "if 0", 3);
        fault(x, "if a", 4);
        fault(x, "if a0", 4);
        fault(x, "if a ", 5);
        fault(x, "if a b", 5);
        fault(x, "if a 0", 6);
        fault(x, "if a 0 ", 7);
        fault(x, "if a 0 0 ", 8);
        fault(x, "s", 1);
        fault(x, "s=1", 1);
        fault(x, "st op", 2);
        fault(x, "stop", 4);
        fault(x, "stop ", 5);
        fault(x, "stop 0", 5);
        fault(x, "stop ab", 6);
        fault(x, "stop a;", 6);
        fault(x, "a=1;g=2;stop m", 13);
        fault(x, "a=1" + (char) 0, 3);
        fault(x, "" + (char) 0, 0);
        fault(x, "stop a" + (char) 0, 6);
        fault(x, "a=" + (char) 0x661, 2);
    }

    private static void faultsOfBlocks() {
        SpillPlanner x = new SpillPlanner();
        x.clear(3);
        Check.gives("go 2", 0, () -> Texts.read(x, 0, "go 2"));
        fault(x, "go 3", 3);
        fault(x, "go 9", 3);
        fault(x, "if a 3 0", 5);
        fault(x, "if a 2 3", 7);
        x.clear(8);
        fault(x, "go 8", 3);
    }

    private static void inputAfterwards() {
        SpillPlanner x = new SpillPlanner();
        Texts.feed(x, "stop b");
        Check.refuses("block 1", INDEX, () -> x.read(1));
        Check.refuses("block -1", INDEX, () -> x.read(-1));
        Check.gives("the input is still there", 0, () -> x.read(0));
        Check.gives("its variable", 1, () -> x.block(0, 2));
        Check.gives("it is empty after a text", -100, () -> x.read(0));
        Texts.feed(x, "stopp");
        Check.gives("at fault", -104, () -> x.read(0));
        Check.gives("it is empty after a fault", 1, () -> x.feed('s'));
        x.clear(2);
        Check.gives("clear leaves the input alone", 6, () -> Texts.feed(x, "top a"));
        Check.gives("it is a text", 0, () -> x.read(1));
    }

    private static void faultChangesNothing() {
        SpillPlanner x = Texts.program("a=1;b=a;go 0");
        x.plan(2, false);
        fault(x, "c=3;d=4;e=5;stop z", 17);
        Check.gives("the plan stays", 2, () -> x.planned(0));
        Check.gives("two instructions", 2, () -> x.block(0, 0));
        Check.gives("the end", 0, () -> x.block(0, 1));
        partIs(x, 0, 0, 0, 1, -1);
        partIs(x, 1, 1, 1, 0, -1);
    }
}
