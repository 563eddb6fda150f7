import java.util.ArrayList;
import java.util.List;
import java.util.Random;

/** Runs of random calls, with a fixed seed, on the class and on the model of the document. */
public final class ModelTest {
    private static final int RUNS = Integer.getInteger("runs", 1000);
    private static final int MOST_CALLS = 500;

    private final Random random;
    private final SpillPlanner x = new SpillPlanner();
    private final Model m = new Model();
    private final List<String> trace = new ArrayList<>();
    private int blocks = 1;

    private ModelTest(long seed) {
        random = new Random(seed);
    }

    public static void main(String[] args) {
        for (int run = 0; run < RUNS && !Check.hasWrong(); run++) {
            new ModelTest(run).perform();
        }
        Check.end("ModelTest");
    }

    private void perform() {
        makeProgram();
        while (trace.size() < MOST_CALLS && !Check.hasWrong()) {
            if (chance(12)) {
                changeSomething();
            } else if (chance(3)) {
                planOrRun();
            } else {
                ask();
            }
            if (chance(60)) {
                makeProgram();
            }
        }
    }

    private boolean chance(int n) {
        return random.nextInt(n) == 0;
    }

    /** Mostly in range, sometimes just outside, rarely far away. */
    private int near(int low, int high) {
        if (chance(25)) {
            return chance(2) ? low - 1 : high + 1;
        }
        if (chance(100)) {
            return chance(2) ? Integer.MIN_VALUE : Integer.MAX_VALUE;
        }
        return low + random.nextInt(high - low + 1);
    }

    private void both(String call, Check.Call real, Check.Call due) {
        String got = Check.answerOf(real);
        String want = Check.answerOf(due);
        trace.add(call + " = " + want);
        if (!got.equals(want)) {
            trace.forEach(System.out::println);
        }
        Check.due(call, got, want);
    }

    private void clear(int n) {
        both("clear(" + n + ")", () -> x.clear(n), () -> m.clear(n));
        blocks = n;
    }

    private void makeProgram() {
        if (chance(2)) {
            makeBusyBeginning();
        } else {
            makeMixture();
        }
    }

    /** Many variables before the loops and few within them, so that some are promoted. */
    private void makeBusyBeginning() {
        int n = 3 + random.nextInt(6);
        clear(n);
        int few = 2 + random.nextInt(3);
        int lowest = random.nextInt(12 - few);
        for (int b = 0; b < n; b++) {
            int low = b == 0 ? 0 : lowest;
            int span = b == 0 ? 12 : few;
            int count = b == 0 ? 8 : 1 + random.nextInt(3);
            for (int i = 0; i < count; i++) {
                append(b, random.nextInt(chance(3) ? 1 : 5), low + random.nextInt(span),
                    low + random.nextInt(span), low + random.nextInt(span));
            }
            setEnd(b, b == n - 1 ? 2 : random.nextInt(2), low + random.nextInt(span),
                b == 0 ? 1 : towards(b, n), b == 0 ? 1 : towards(b, n));
            setFrequency(b, b == 0 ? 10 + random.nextInt(50) : 1 + random.nextInt(6));
        }
        for (int v = 0; v < 12; v++) {
            setInitial(v, random.nextInt(9) - 2);
        }
    }

    private void makeMixture() {
        int n = 1 + random.nextInt(8);
        clear(n);
        int variables = 2 + random.nextInt(11);
        int most = 1 + random.nextInt(chance(3) ? 8 : 4);
        for (int b = 0; b < n; b++) {
            int count = random.nextInt(most + 1);
            for (int i = 0; i < count; i++) {
                append(b, random.nextInt(chance(3) ? 1 : 5), random.nextInt(variables),
                    random.nextInt(variables), random.nextInt(variables));
            }
            setEnd(b, chance(5) ? 2 : random.nextInt(2), random.nextInt(variables),
                towards(b, n), towards(b, n));
            if (chance(2)) {
                int f = 1 + random.nextInt(20);
                setFrequency(b, f);
            }
        }
        setEnd(n - 1, chance(3) ? 1 : 2, random.nextInt(variables), random.nextInt(n),
            random.nextInt(n));
        for (int j = 0; j < 4; j++) {
            setInitial(random.nextInt(variables), random.nextInt(9) - 2);
        }
    }

    /** Steps forward are more usual than jumps, so that loops nest. */
    private int towards(int b, int n) {
        return chance(3) ? random.nextInt(n) : chance(3) ? random.nextInt(b + 1)
            : Math.min(n - 1, b + 1);
    }

    private void append(int b, int kind, int target, int a, int c) {
        both("append(" + b + ", " + kind + ", " + target + ", " + a + ", " + c + ")",
            () -> x.append(b, kind, target, a, c), () -> m.append(b, kind, target, a, c));
    }

    private void setEnd(int b, int kind, int v, int first, int second) {
        both("setEnd(" + b + ", " + kind + ", " + v + ", " + first + ", " + second + ")",
            () -> x.setEnd(b, kind, v, first, second), () -> m.setEnd(b, kind, v, first, second));
    }

    private void setFrequency(int b, int f) {
        both("setFrequency(" + b + ", " + f + ")", () -> x.setFrequency(b, f),
            () -> m.setFrequency(b, f));
    }

    private void setInitial(int v, int value) {
        both("setInitial(" + v + ", " + value + ")", () -> x.setInitial(v, value),
            () -> m.setInitial(v, value));
    }

    private void changeSomething() {
        int b = near(0, blocks - 1);
        int v = near(0, 11);
        switch (random.nextInt(10)) {
            case 0:
                append(b, near(0, 4), v, near(0, 11), near(0, 11));
                break;
            case 1:
                append(b, 0, v, near(-999, 999), near(0, 11));
                break;
            case 2:
                both("removeLast(" + b + ")", () -> x.removeLast(b), () -> m.removeLast(b));
                break;
            case 3:
                setEnd(b, near(0, 2), v, near(0, blocks - 1), near(0, blocks - 1));
                break;
            case 4:
                setFrequency(b, near(1, 9999));
                break;
            case 5:
                setInitial(v, random.nextInt());
                break;
            case 6:
                both("profile()", x::profile, m::profile);
                break;
            case 7:
                both("saveSnapshot()", x::saveSnapshot, m::saveSnapshot);
                break;
            case 8:
                both("restoreSnapshot()", x::restoreSnapshot, m::restoreSnapshot);
                blocks = m.saveSnapshot();
                x.saveSnapshot();
                break;
            default:
                readText(b);
        }
    }

    private void readText(int b) {
        String text = randomText();
        for (char c : text.toCharArray()) {
            both("feed('" + c + "')", () -> x.feed(c), () -> m.feed(c));
        }
        if (!chance(10)) {
            both("read(" + b + ")", () -> x.read(b), () -> m.read(b));
        }
    }

    private String randomText() {
        StringBuilder text = new StringBuilder();
        int count = chance(4) ? 7 + random.nextInt(3) : random.nextInt(4);
        for (int i = 0; i < count; i++) {
            text.append(letter()).append('=');
            if (chance(2)) {
                text.append(chance(3) ? "-" : "").append(random.nextInt(chance(8) ? 1200 : 50));
            } else {
                text.append(letter());
                if (!chance(3)) {
                    text.append("+-*".charAt(random.nextInt(3))).append(letter());
                }
            }
            text.append(';');
        }
        switch (random.nextInt(4)) {
            case 0:
                text.append("go ").append(digit());
                break;
            case 1:
                text.append("stop ").append(letter());
                break;
            default:
                text.append("if ").append(letter()).append(' ').append(digit()).append(' ')
                    .append(digit());
        }
        return damage(text);
    }

    private String damage(StringBuilder text) {
        String signs = "abgilmos=;+-* 0179fp\u00e9\u4e00\0";
        if (chance(2)) {
            int at = random.nextInt(text.length());
            switch (random.nextInt(3)) {
                case 0:
                    text.setCharAt(at, signs.charAt(random.nextInt(signs.length())));
                    break;
                case 1:
                    text.insert(at, signs.charAt(random.nextInt(signs.length())));
                    break;
                default:
                    text.setLength(at);
            }
        }
        if (chance(8)) {
            text.append(signs.charAt(random.nextInt(signs.length())));
        }
        return text.toString();
    }

    private char letter() {
        return (char) ('a' + random.nextInt(chance(20) ? 13 : 12));
    }

    private char digit() {
        return (char) ('0' + (chance(10) ? random.nextInt(10) : random.nextInt(blocks)));
    }

    private void planOrRun() {
        int limit = chance(4) ? near(1, 1000) : near(100, 300);
        int k = chance(3) ? near(1, 12) : 1 + random.nextInt(4);
        boolean isRecomputing = chance(2);
        switch (random.nextInt(4)) {
            case 0:
                both("run(" + limit + ")", () -> x.run(limit), () -> m.run(limit));
                break;
            case 1:
                both("runPlanned(" + limit + ")", () -> x.runPlanned(limit),
                    () -> m.runPlanned(limit));
                break;
            default:
                both("plan(" + k + ", " + isRecomputing + ")", () -> x.plan(k, isRecomputing),
                    () -> m.plan(k, isRecomputing));
                both("runPlanned(" + limit + ")", () -> x.runPlanned(limit),
                    () -> m.runPlanned(limit));
                askAllOfPlan();
        }
    }

    private void askAllOfPlan() {
        for (int what = 0; what < 5; what++) {
            int w = what;
            both("planned(" + w + ")", () -> x.planned(w), () -> m.planned(w));
            if (w < 4) {
                both("executed(" + w + ")", () -> x.executed(w), () -> m.executed(w));
            }
        }
    }

    private void ask() {
        int b = near(0, blocks - 1);
        int v = near(0, 11);
        int loop = near(0, 2);
        int what = near(0, 5);
        switch (random.nextInt(13)) {
            case 0:
                int i = near(0, 7);
                both("instruction(" + b + ", " + i + ", " + what + ")",
                    () -> x.instruction(b, i, what), () -> m.instruction(b, i, what));
                break;
            case 1:
                both("block(" + b + ", " + what + ")", () -> x.block(b, what),
                    () -> m.block(b, what));
                break;
            case 2:
                int point = near(0, 8);
                both("live(" + b + ", " + point + ")", () -> x.live(b, point),
                    () -> m.live(b, point));
                break;
            case 3:
                both("conflicts(" + v + ")", () -> x.conflicts(v), () -> m.conflicts(v));
                break;
            case 4:
                both("pressure()", x::pressure, m::pressure);
                break;
            case 5:
                both("loops()", x::loops, m::loops);
                break;
            case 6:
                int w = near(0, 2);
                both("loop(" + loop + ", " + w + ")", () -> x.loop(loop, w), () -> m.loop(loop, w));
                break;
            case 7:
                boolean isRecomputing = chance(2);
                both("cost(" + v + ", " + isRecomputing + ")", () -> x.cost(v, isRecomputing),
                    () -> m.cost(v, isRecomputing));
                break;
            case 8:
                int h = near(0, 2);
                both("home(" + v + ", " + h + ")", () -> x.home(v, h), () -> m.home(v, h));
                break;
            case 9:
                both("promoted(" + v + ", " + loop + ")", () -> x.promoted(v, loop),
                    () -> m.promoted(v, loop));
                break;
            case 10:
                both("enough()", x::enough, m::enough);
                break;
            case 11:
                both("visits(" + b + ")", () -> x.visits(b), () -> m.visits(b));
                break;
            default:
                both("planned(" + what + ")", () -> x.planned(what), () -> m.planned(what));
        }
    }
}
