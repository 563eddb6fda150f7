import java.util.Random;

/**
 * What follows from the document, as NOTES.md reads it, for every program that ends and every plan: the
 * two machines agree, and what the planned one does costs no more than the plan says.
 */
public final class AgreementTest {
    private static final int PROGRAMS = Integer.getInteger("programs", 300);
    private static final int VARIABLES = 12;

    private final long seed;
    private SpillPlanner x;
    private int blocks;

    private AgreementTest(long seed) {
        this.seed = seed;
    }

    public static void main(String[] args) {
        int tried = 0;
        for (long seed = 0; tried < PROGRAMS && !Check.hasWrong(); seed++) {
            AgreementTest test = new AgreementTest(seed);
            if (test.ends()) {
                tried++;
                test.perform();
            }
        }
        Check.end("AgreementTest");
    }

    private boolean ends() {
        makeProgram();
        return !Check.answerOf(() -> x.run(1000)).startsWith("throws");
    }

    private void perform() {
        for (int k = 1; k <= VARIABLES; k++) {
            for (boolean isRecomputing : new boolean[] {false, true}) {
                makeProgram();
                machinesAgree(k, isRecomputing);
                conflictsAreApart(k, isRecomputing);
            }
        }
    }

    /** Loops over few variables behind a busy beginning, so that there is much to promote. */
    private void makeProgram() {
        Random random = new Random(seed);
        x = new SpillPlanner();
        blocks = 2 + random.nextInt(7);
        x.clear(blocks);
        int few = 2 + random.nextInt(8);
        for (int b = 0; b < blocks; b++) {
            int span = b == 0 ? VARIABLES : few;
            int count = random.nextInt(b == 0 ? 9 : 5);
            for (int i = 0; i < count; i++) {
                x.append(b, random.nextInt(5), random.nextInt(span), random.nextInt(span),
                    random.nextInt(span));
            }
            int kind = b == blocks - 1 ? 2 : random.nextInt(4) == 0 ? 0 : 1;
            x.setEnd(b, kind, random.nextInt(few), nextOf(random, b), nextOf(random, b));
        }
        for (int v = 0; v < VARIABLES; v++) {
            x.setInitial(v, random.nextInt(7) - 2);
        }
    }

    private int nextOf(Random random, int b) {
        return random.nextInt(5) < 2 ? random.nextInt(b + 1) : Math.min(blocks - 1, b + 1);
    }

    private void machinesAgree(int k, boolean isRecomputing) {
        String of = "program " + seed + ", plan(" + k + ", " + isRecomputing + "): ";
        int result = x.run(1000);
        int steps = x.executed(0);
        int[] visits = new int[blocks];
        for (int b = 0; b < blocks; b++) {
            visits[b] = x.visits(b);
        }
        Check.due(of + "loads, stores and recomputations without a plan",
            x.executed(1) + x.executed(2) + x.executed(3), 0);
        x.profile();
        x.plan(k, isRecomputing);
        Check.due(of + "the result by the plan", x.runPlanned(1000), result);
        Check.due(of + "instructions and ends by the plan", x.executed(0), steps);
        for (int b = 0; b < blocks; b++) {
            Check.due(of + "visits by the plan to block " + b, x.visits(b), visits[b]);
        }
        // A load and a store cost 3, and the frequencies are those of this very execution, or 1.
        int spent = 3 * (x.executed(1) + x.executed(2)) + x.executed(3);
        Check.isTrue(of + spent + " is no more than the planned " + x.planned(4),
            spent <= x.planned(4));
    }

    private void conflictsAreApart(int k, boolean isRecomputing) {
        String of = "program " + seed + ", plan(" + k + ", " + isRecomputing + "): ";
        int[] places = new int[VARIABLES];
        int[] numbers = new int[VARIABLES];
        for (int v = 0; v < VARIABLES; v++) {
            places[v] = x.home(v, 0);
            numbers[v] = places[v] == 0 ? x.home(v, 1) : x.home(v, 2);
            Check.isTrue(of + "variable " + v + " has a register less than k",
                places[v] != 0 || numbers[v] >= 0 && numbers[v] < k);
        }
        for (int v = 0; v < VARIABLES; v++) {
            int conflicts = x.conflicts(v);
            for (int w = 0; w < VARIABLES; w++) {
                boolean isShared = places[v] == places[w] && places[v] != 2
                    && numbers[v] == numbers[w];
                Check.isTrue(of + "variables " + v + " and " + w + " do not share a place",
                    !isShared || (conflicts >> w & 1) == 0);
            }
        }
    }
}
