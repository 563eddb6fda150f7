/** Compares answers with those that are due, and counts the wrong ones. */
final class Check {
    interface Call {
        int make();
    }

    private static int made = 0;
    private static int wrong = 0;
    private static int sentences = 0;
    private static int madeBefore = 0;
    private static String sentence = "";

    private Check() {
    }

    /** From here on the answers show whether this sentence of the document holds. */
    static void sentence(String words) {
        endSentence();
        sentence = words;
        sentences++;
        madeBefore = made;
    }

    /** A sentence under which nothing was asked has no test. */
    private static void endSentence() {
        if (!sentence.isEmpty() && made == madeBefore) {
            due("the number of answers", "0", "at least 1");
        }
        sentence = "";
    }

    static void due(String what, String got, String want) {
        made++;
        if (!got.equals(want)) {
            wrong++;
            String under = sentence.isEmpty() ? "" : "[" + sentence + "] ";
            System.out.println(under + what + " answered " + got + ", due is " + want);
        }
    }

    static void due(String what, long got, long want) {
        due(what, String.valueOf(got), String.valueOf(want));
    }

    static void isTrue(String what, boolean holds) {
        due(what, String.valueOf(holds), "true");
    }

    /** The call answers this number. */
    static void gives(String what, int want, Call call) {
        due(what, answerOf(call), String.valueOf(want));
    }

    /** The call throws this exception, of exactly this class. */
    static void refuses(String what, Class<? extends RuntimeException> want, Call call) {
        due(what, answerOf(call), "throws." + want.getSimpleName());
    }

    static String answerOf(Call call) {
        try {
            return String.valueOf(call.make());
        } catch (RuntimeException e) {
            return "throws." + e.getClass().getSimpleName();
        }
    }

    static boolean hasWrong() {
        return wrong > 0;
    }

    static void end(String name) {
        endSentence();
        String of = sentences > 0 ? " to " + sentences + " sentences" : "";
        System.out.println(name + ": " + made + " answers" + of + ", " + wrong + " of them wrong");
        if (wrong > 0 || made == 0) {
            System.exit(1);
        }
    }
}
