/** All that can be asked of an object, as texts that can be compared. */
final class State {
    /**
     * What is asked together, as one object has room for 512 calls only. The last three parts can
     * only be asked by calls that change something, and a full program only once.
     */
    enum Part {
        PROGRAM(false), ANALYSIS(true), PLAN(true), COUNTS(true), INITIAL(false), INPUT(false),
        SNAPSHOT(false);

        final boolean canBeAskedTwice;

        Part(boolean canBeAskedTwice) {
            this.canBeAskedTwice = canBeAskedTwice;
        }
    }

    private final SpillPlanner x;
    private final StringBuilder seen = new StringBuilder();

    private State(SpillPlanner x) {
        this.x = x;
    }

    static String of(SpillPlanner x, Part part) {
        State state = new State(x);
        switch (part) {
            case PROGRAM:
                state.seeProgram();
                break;
            case ANALYSIS:
                state.seeAnalysis();
                break;
            case PLAN:
                state.seePlan();
                break;
            case COUNTS:
                state.seeCounts();
                break;
            case INITIAL:
                state.seeInitial();
                break;
            case INPUT:
                state.seeInput();
                break;
            default:
                state.seeSnapshot();
        }
        return state.seen.toString();
    }

    private void see(Check.Call call) {
        seen.append(Check.answerOf(call)).append(' ');
    }

    private void seeProgram() {
        int blocks = blocks();
        for (int b = 0; b < blocks; b++) {
            int block = b;
            for (int w = 0; w < 6; w++) {
                int what = w;
                see(() -> x.block(block, what));
            }
            int parts = 4 * x.block(block, 0);
            for (int j = 0; j < parts; j++) {
                int at = j;
                see(() -> x.instruction(block, at / 4, at % 4));
            }
            seen.append('\n');
        }
    }

    /** Counts without a call that could change something. */
    private int blocks() {
        int count = 0;
        while (count < 9 && isBlock(count)) {
            count++;
        }
        return count;
    }

    private boolean isBlock(int b) {
        return !Check.answerOf(() -> x.block(b, 0)).startsWith("throws");
    }

    private void seeAnalysis() {
        int blocks = blocks();
        for (int b = 0; b < blocks; b++) {
            int end = x.block(b, 0);
            for (int j = 0; j <= end; j++) {
                int block = b;
                int i = j;
                see(() -> x.live(block, i));
            }
        }
        for (int v = 0; v < 12; v++) {
            int variable = v;
            see(() -> x.conflicts(variable));
            see(() -> x.cost(variable, false));
            see(() -> x.cost(variable, true));
        }
        see(x::pressure);
        int parts = 3 * x.loops();
        for (int j = 0; j < parts; j++) {
            int at = j;
            see(() -> x.loop(at / 3, at % 3));
        }
    }

    private void seePlan() {
        int loops = x.loops();
        for (int w = 0; w < 5; w++) {
            int what = w;
            see(() -> x.planned(what));
        }
        for (int v = 0; v < 12; v++) {
            int variable = v;
            for (int w = 0; w < 3; w++) {
                int what = w;
                see(() -> x.home(variable, what));
            }
            for (int j = 0; j < loops; j++) {
                int loop = j;
                see(() -> x.promoted(variable, loop));
            }
        }
        see(x::enough);
    }

    private void seeCounts() {
        for (int w = 0; w < 4; w++) {
            int what = w;
            see(() -> x.executed(what));
        }
        int blocks = blocks();
        for (int b = 0; b < blocks; b++) {
            int block = b;
            see(() -> x.visits(block));
        }
    }

    /** Runs the planned machine first, whose registers a call could have disturbed. */
    private void seeInitial() {
        see(() -> x.runPlanned(1000));
        see(() -> x.run(1000));
        for (int v = 0; v < 12; v++) {
            int variable = v;
            see(() -> x.setInitial(variable, 0));
        }
    }

    /** Samples feed a text without its last letter, so that its characters show in block 0. */
    private void seeInput() {
        see(() -> x.feed('d'));
        see(() -> x.read(0));
        seeProgram();
        see(() -> x.feed('d'));
    }

    private void seeSnapshot() {
        see(x::restoreSnapshot);
        seeProgram();
        for (int v = 0; v < 12; v++) {
            int variable = v;
            see(() -> x.setInitial(variable, 0));
        }
    }
}
