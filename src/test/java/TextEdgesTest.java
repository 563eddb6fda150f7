/** The sentences of promises 26 and 27, and each wrong character at each place of some texts. */
public final class TextEdgesTest {
    private static final String EIGHT = "a=1;b=a;c=a+b;d=b-c;e=c*d;f=-12;g=999;h=-999;";
    private static final String[] TEXTS = {"a=1;go 2", "b=-23;if g 0 1", "c=999;stop l", "i=g*l;g=a;go 0",
        EIGHT + "if i 2 2", EIGHT + "go 1"};

    public static void main(String[] args) {
        emptyAndFullInput();
        letters();
        numbers();
        operators();
        digits();
        atMostEightInstructions();
        endsTooEarly();
        eachWrongCharacter();
        eachCharacterMore();
        whatAReadChanges();
        whatAFaultChanges();
        inputAfterwards();
        Check.end("TextEdgesTest");
    }

    private static void reads(SpillPlanner x, String text, int want) {
        Check.gives("'" + text + "'", want, () -> Texts.read(x, 0, text));
    }

    /** A new object each time, as one has room for 512 calls only. */
    private static void faultOrText(String text, int want) {
        reads(new SpillPlanner(), text, want);
    }

    private static void emptyAndFullInput() {
        Check.sentence("26: the input is empty at first; returns the length of the input");
        Script.made("feed('a') = 1; feed('=') = 2");
        Check.sentence("26: 80 characters are taken, one more is not");
        SpillPlanner x = new SpillPlanner();
        for (int i = 1; i <= 80; i++) {
            Script.due(x, "feed('x') = " + i);
        }
        Script.due(x, "feed('x') = throws IllegalStateException; read(0) = -100; feed('x') = 1");
        Check.sentence("26: any character is taken");
        SpillPlanner any = new SpillPlanner();
        char[] characters = {0, 31, 127, 128, 255, 256, 0xd800, 0xdfff, 0xfffe, 0xffff};
        for (int i = 0; i < characters.length; i++) {
            char character = characters[i];
            int length = i + 1;
            Check.gives("character " + (int) character, length, () -> any.feed(character));
        }
        Check.sentence("27: the empty input ends too early");
        Script.made("read(0) = -100; feed('a') = 1");
        Check.sentence("27: 80 characters that begin with a whole text are at fault behind it");
        faultOrText(EIGHT + "stop a" + "x".repeat(29), -100 - EIGHT.length() - 6);
    }

    private static void letters() {
        Check.sentence("27: a letter from a to l, for the variables 0 to 11");
        for (int v = 0; v < 12; v++) {
            char letter = (char) ('a' + v);
            SpillPlanner x = new SpillPlanner();
            reads(x, letter + "=5;b=" + letter + ";c=" + letter + "+" + letter + ";stop " + letter, 3);
            Script.due(x, ("instruction(0, 0, 1) = #; instruction(0, 1, 2) = #; instruction(0, 2, 2) = #;"
                + " instruction(0, 2, 3) = #; block(0, 2) = #").replace("#", String.valueOf(v)));
            reads(x, "if " + letter + " 0 0", 0);
            Script.due(x, "block(0, 2) = " + v);
        }
        Check.sentence("27: the letters next to them are no variables");
        for (char other : new char[] {'`', 'm', '@', 'A', 'L', 'M'}) {
            SpillPlanner x = new SpillPlanner();
            reads(x, other + "=5;stop a", -100);
            reads(x, "a=" + other + ";stop a", -102);
            reads(x, "a=b+" + other + ";stop a", -104);
            reads(x, "stop " + other, -105);
            reads(x, "if " + other + " 0 0", -103);
        }
    }

    private static void constantIs(String digits, int want) {
        SpillPlanner x = new SpillPlanner();
        reads(x, "a=" + digits + ";stop a", 1);
        Script.due(x, "instruction(0, 0, 0) = 0; instruction(0, 0, 2) = " + want
            + "; instruction(0, 0, 3) = -1; run(2) = " + want);
    }

    private static void numbers() {
        Check.sentence("27: number = one to three digits");
        constantIs("0", 0);
        constantIs("9", 9);
        constantIs("10", 10);
        constantIs("99", 99);
        constantIs("100", 100);
        constantIs("999", 999);
        constantIs("000", 0);
        constantIs("007", 7);
        SpillPlanner x = new SpillPlanner();
        reads(x, "a=;stop a", -102);
        reads(x, "a=1000;stop a", -105);
        reads(x, "a=0001;stop a", -105);
        Check.sentence("27: [ \"-\" ] number");
        constantIs("-0", 0);
        constantIs("-1", -1);
        constantIs("-999", -999);
        constantIs("-010", -10);
        reads(x, "a=-;stop a", -103);
        reads(x, "a=--1;stop a", -103);
        reads(x, "a=-1000;stop a", -106);
        reads(x, "a=+1;stop a", -102);
        reads(x, "a=-b;stop a", -103);
        Check.sentence("27: the characters next to the digits are none");
        reads(x, "a=/;stop a", -102);
        reads(x, "a=:;stop a", -102);
        reads(x, "a=1/;stop a", -103);
        reads(x, "a=1:;stop a", -103);
    }

    private static void operators() {
        Check.sentence("27: a variable, or two with a sign between them");
        String[] texts = {"c=a;stop c", "c=a+b;stop c", "c=a-b;stop c", "c=a*b;stop c"};
        for (int kind = 1; kind <= 4; kind++) {
            SpillPlanner x = new SpillPlanner();
            reads(x, texts[kind - 1], 1);
            Script.due(x, "instruction(0, 0, 0) = " + kind + "; instruction(0, 0, 1) = 2;"
                + " instruction(0, 0, 2) = 0; instruction(0, 0, 3) = " + (kind == 1 ? -1 : 1));
        }
        Check.sentence("27: no number stands beside a sign");
        SpillPlanner x = new SpillPlanner();
        reads(x, "a=b+1;stop a", -104);
        reads(x, "a=1+b;stop a", -103);
        reads(x, "a=b-1;stop a", -104);
        Check.sentence("27: no third variable, no other sign");
        reads(x, "a=b+c+d;stop a", -105);
        for (char other : new char[] {'/', ',', '%', '(', '.', ' ', '='}) {
            reads(x, "a=b" + other + "c;stop a", -103);
        }
    }

    private static void digits() {
        Check.sentence("27: the digits are numbers of blocks");
        for (int n = 1; n <= 8; n++) {
            SpillPlanner x = Script.made("clear(" + n + ") = 1");
            int last = n - 1;
            reads(x, "go " + last, 0);
            Script.due(x, "block(0, 1) = 0; block(0, 3) = " + last);
            reads(x, "if a " + last + " 0", 0);
            Script.due(x, "block(0, 1) = 1; block(0, 3) = " + last + "; block(0, 4) = 0");
            reads(x, "if a 0 " + last, 0);
            Script.due(x, "block(0, 3) = 0; block(0, 4) = " + last);
            for (int digit = n; digit <= 9; digit++) {
                reads(x, "go " + digit, -103);
                reads(x, "if a " + digit + " 0", -105);
                reads(x, "if a 0 " + digit, -107);
            }
            Script.due(x, "block(0, 1) = 1; block(0, 4) = " + last);
        }
        Check.sentence("27: one digit alone");
        SpillPlanner x = Script.made("clear(8) = 1");
        reads(x, "go 00", -104);
        reads(x, "if a 01 1", -106);
        reads(x, "if a 0 11", -108);
        reads(x, "go -1", -103);
    }

    private static void atMostEightInstructions() {
        int end = EIGHT.length();
        SpillPlanner x = new SpillPlanner();
        Check.sentence("27: a text has at most 8 instructions, and no fewer than none");
        reads(x, EIGHT + "stop a", 8);
        Script.due(x, "block(0, 0) = 8");
        reads(x, "stop a", 0);
        Script.due(x, "block(0, 0) = 0");
        Check.sentence("27: a ninth is at fault at its first letter");
        for (char letter : new char[] {'a', 'b', 'f', 'h', 'j', 'l', 'm', ';'}) {
            faultOrText(EIGHT + letter + "=1;stop a", -100 - end);
        }
        Check.sentence("27: .. or at its second character, where the letter could begin an end");
        faultOrText(EIGHT + "g=1;stop a", -101 - end);
        faultOrText(EIGHT + "i=1;stop a", -101 - end);
        faultOrText(EIGHT + "s=1;stop a", -101 - end);
        Check.sentence("27: g and i begin instructions as long as there are fewer than 8");
        faultOrText("g=1;i=2;g=i;i=g*i;stop g", 4);
        faultOrText(EIGHT.substring(4) + "i=1;stop a", 8);
    }

    private static void endsTooEarly() {
        Check.sentence("27: the length of the input if it ends too early");
        String[] texts = {EIGHT + "go 0", EIGHT + "if a 0 0", EIGHT + "stop a", "i=g-i;g=-1;if i 0 0"};
        for (String text : texts) {
            for (int length = 0; length < text.length(); length++) {
                faultOrText(text.substring(0, length), -100 - length);
            }
        }
    }

    /** The regular expression of the model says what a text is, and what can begin one. */
    private static void readsLikeTheModel(String text) {
        SpillPlanner x = new SpillPlanner();
        Model m = new Model();
        x.clear(3);
        m.clear(3);
        for (char character : text.toCharArray()) {
            m.feed(character);
        }
        Check.due("'" + text + "'", Texts.read(x, 0, text), m.read(0));
    }

    private static void eachWrongCharacter() {
        Check.sentence("27: the offset of the first character that cannot continue such a text");
        StringBuilder signs = new StringBuilder("\u00b2\u00e9\u0161\u0130\u0660\uff41\uffff");
        for (char sign = 0; sign < 128; sign++) {
            signs.append(sign);
        }
        for (String text : TEXTS) {
            for (int at = 0; at < text.length(); at++) {
                for (char sign : signs.toString().toCharArray()) {
                    readsLikeTheModel(text.substring(0, at) + sign + text.substring(at + 1));
                }
            }
        }
    }

    private static void eachCharacterMore() {
        Check.sentence("27: .. also where a character stands too much, or one is missing");
        for (String text : TEXTS) {
            for (int at = 0; at <= text.length(); at++) {
                for (char sign : "abgilmostf=;+-*0129 ".toCharArray()) {
                    readsLikeTheModel(text.substring(0, at) + sign + text.substring(at));
                }
                if (at < text.length()) {
                    readsLikeTheModel(text.substring(0, at) + text.substring(at + 1));
                }
            }
        }
    }

    private static void whatAReadChanges() {
        Check.sentence("27: replaces the instructions and the end of a block; the frequency stays");
        SpillPlanner x = Samples.rich();
        Script.due(x, "feed('d') = 10; read(2) = 1; block(2, 0) = 1; instruction(2, 0, 0) = 0;"
            + " instruction(2, 0, 1) = 2; instruction(2, 0, 2) = 4; block(2, 1) = 2; block(2, 2) = 3;"
            + " block(2, 3) = -1; block(2, 4) = -1; block(2, 5) = 100");
        Check.sentence("27: the other blocks and the initial values stay");
        Script.due(x, "block(0, 0) = 1; block(0, 3) = 1; block(1, 0) = 1; block(1, 5) = 5; setInitial(0, 0) = 3");
        Check.sentence("27: the last block can be read");
        Script.made("clear(8) = 1; feed('g') = 1; feed('o') = 2; feed(' ') = 3; feed('7') = 4; read(7) = 0;"
            + " block(7, 3) = 7; block(0, 1) = 2");
    }

    private static void whatAFaultChanges() {
        Check.sentence("27: if the text is at fault the block does not change");
        String[] texts = {"", "e", "e=1;d=2;c=3;stop m", "go 3", EIGHT + "a=1;stop a", "stop bb"};
        for (String text : texts) {
            for (State.Part part : State.Part.values()) {
                SpillPlanner x = withoutInput();
                Check.isTrue("'" + text + "' is at fault", Texts.read(x, 2, text) <= -100);
                Check.due(part + " after '" + text + "'", State.of(x, part), State.of(withoutInput(), part));
            }
        }
    }

    private static SpillPlanner withoutInput() {
        SpillPlanner x = Samples.rich();
        Script.due(x, "read(0) = -109");
        return x;
    }

    private static void inputAfterwards() {
        Check.sentence("27: the input is empty after a text");
        Script.due(Samples.rich(), "feed('d') = 10; read(0) = 1; feed('d') = 1");
        Check.sentence("27: the input is empty after a fault");
        Script.due(Samples.rich(), "feed('m') = 10; read(0) = -109; feed('d') = 1");
        Script.due(Samples.full(), "read(0) = -110; feed('d') = 1");
        Check.sentence("27: .. except after an IndexOutOfBoundsException");
        Script.due(Samples.rich(), "read(3) = throws IndexOutOfBoundsException;"
            + " read(-1) = throws IndexOutOfBoundsException; feed('d') = 10; read(0) = 1");
        Script.due(Samples.full(), "read(8) = throws IndexOutOfBoundsException;"
            + " feed('d') = throws IllegalStateException");
    }
}
