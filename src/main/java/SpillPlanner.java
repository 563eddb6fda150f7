import java.util.Arrays;
import java.util.NoSuchElementException;

/**
 * Plans which variables of a small program live in registers, in memory, or are computed anew, and
 * executes the program without and with the plan.
 */
public final class SpillPlanner {
    private static final int MOST_BLOCKS = 8;
    private static final int MOST_INSTRUCTIONS = 8;
    private static final int POINTS = MOST_INSTRUCTIONS + 1;
    private static final int VARIABLES = 12;
    private static final int MOST_CONSTANT = 999;
    private static final int MOST_FREQUENCY = 9999;
    private static final int MOST_STEPS = 1000;
    private static final int MOST_INPUT = 80;
    private static final int FAULT = -100;
    private static final int NONE = -1;

    private static final int SET_CONSTANT = 0;
    private static final int COPY = 1;
    private static final int ADD = 2;
    private static final int SUBTRACT = 3;
    private static final int MULTIPLY = 4;

    private static final int GO = 0;
    private static final int BRANCH = 1;
    private static final int STOP = 2;

    private static final int IN_REGISTER = 0;
    private static final int IN_MEMORY = 1;
    private static final int RECOMPUTED = 2;

    private static final int MEMORY_WEIGHT = 3;

    private final Program program;
    private final Program snapshot;
    private final Facts facts;
    private final LoopFinder loopFinder;
    private final Plan currentPlan;
    private final Machine plainMachine;
    private final Machine planMachine;
    private final Reader reader;
    private final int[] spareColours;
    private final int[] latestCounts;
    private final int[] latestVisits;
    private boolean hasSnapshot;
    private boolean hasPlan;
    private boolean isAnalysed;

    public SpillPlanner() {
        Program newProgram = new Program();
        Facts newFacts = new Facts(newProgram);
        LoopFinder newFinder = new LoopFinder(newProgram);
        Plan newPlan = new Plan(newProgram, newFacts, newFinder);
        program = newProgram;
        snapshot = new Program();
        facts = newFacts;
        loopFinder = newFinder;
        currentPlan = newPlan;
        plainMachine = new PlainMachine(newProgram);
        planMachine = new PlanMachine(newProgram, newPlan);
        reader = new Reader();
        spareColours = new int[VARIABLES];
        latestCounts = new int[4];
        latestVisits = new int[MOST_BLOCKS];
    }

    // ---- program

    public int clear(int blocks) throws IllegalArgumentException {
        if (blocks < 1 || blocks > MOST_BLOCKS) {
            throw new IllegalArgumentException("a program has 1 to 8 blocks");
        }
        int previous = program.size;
        program.begin(blocks);
        programChanged();
        return previous;
    }

    public int append(int block, int kind, int target, int a, int b)
            throws IndexOutOfBoundsException, IllegalArgumentException, IllegalStateException {
        requireBlock(block);
        if (!isInstruction(kind, target, a, b)) {
            throw new IllegalArgumentException("there is no such instruction");
        }
        Block code = program.blocks[block];
        if (code.size >= MOST_INSTRUCTIONS) {
            throw new IllegalStateException("the block is full");
        }
        code.add(kind, target, a, b);
        programChanged();
        return code.size;
    }

    public int removeLast(int block) throws IndexOutOfBoundsException, NoSuchElementException {
        requireBlock(block);
        Block code = program.blocks[block];
        if (code.size == 0) {
            throw new NoSuchElementException("the block has no instructions");
        }
        code.size--;
        programChanged();
        return code.kinds[code.size];
    }

    public int setEnd(int block, int kind, int variable, int first, int second)
            throws IndexOutOfBoundsException, IllegalArgumentException {
        requireBlock(block);
        if (kind == GO || kind == BRANCH) {
            requireBlock(first);
        }
        if (kind == BRANCH) {
            requireBlock(second);
        }
        if (kind < GO || kind > STOP) {
            throw new IllegalArgumentException("there is no such kind of end");
        }
        if (kind != GO) {
            requireVariable(variable);
        }
        Block code = program.blocks[block];
        int previous = code.endKind;
        code.finish(kind, variable, first, second);
        programChanged();
        return previous;
    }

    public int setFrequency(int block, int frequency)
            throws IndexOutOfBoundsException, IllegalArgumentException {
        requireBlock(block);
        if (frequency < 1 || frequency > MOST_FREQUENCY) {
            throw new IllegalArgumentException("a frequency is from 1 to 9999");
        }
        Block code = program.blocks[block];
        int previous = code.frequency;
        code.frequency = frequency;
        programChanged();
        return previous;
    }

    public int setInitial(int variable, int value) throws IllegalArgumentException {
        requireVariable(variable);
        int previous = program.initial[variable];
        program.initial[variable] = value;
        programChanged();
        return previous;
    }

    public int instruction(int block, int i, int what)
            throws IndexOutOfBoundsException, IllegalArgumentException {
        requireBlock(block);
        Block code = program.blocks[block];
        if (i < 0 || i >= code.size) {
            throw new IndexOutOfBoundsException("there is no such instruction");
        }
        switch (what) {
            case 0:
                return code.kinds[i];
            case 1:
                return code.targets[i];
            case 2:
                return code.firsts[i];
            case 3:
                return code.seconds[i];
            default:
                throw new IllegalArgumentException("an instruction has the parts 0 to 3");
        }
    }

    public int block(int block, int what)
            throws IndexOutOfBoundsException, IllegalArgumentException {
        requireBlock(block);
        Block code = program.blocks[block];
        switch (what) {
            case 0:
                return code.size;
            case 1:
                return code.endKind;
            case 2:
                return code.endVariable;
            case 3:
                return code.endFirst;
            case 4:
                return code.endSecond;
            case 5:
                return code.frequency;
            default:
                throw new IllegalArgumentException("a block has the properties 0 to 5");
        }
    }

    // ---- analysis

    public int live(int block, int i) throws IndexOutOfBoundsException {
        requireBlock(block);
        if (i < 0 || i > program.blocks[block].size) {
            throw new IndexOutOfBoundsException("there is no such point");
        }
        analyse();
        return facts.liveAt[block * POINTS + i];
    }

    public int conflicts(int variable) throws IllegalArgumentException {
        requireVariable(variable);
        analyse();
        return facts.rivals[variable];
    }

    public int pressure() {
        analyse();
        return facts.greatestLive();
    }

    public int loops() {
        analyse();
        return loopFinder.count;
    }

    public int loop(int loop, int what)
            throws IndexOutOfBoundsException, IllegalArgumentException {
        requireLoop(loop);
        switch (what) {
            case 0:
                return loopFinder.headers[loop];
            case 1:
                return loopFinder.members[loop];
            case 2:
                return loopFinder.depth(loop);
            default:
                throw new IllegalArgumentException("a loop has the properties 0 to 2");
        }
    }

    public int cost(int variable, boolean isRecomputing)
            throws IllegalArgumentException, UnsupportedOperationException {
        requireVariable(variable);
        analyse();
        if (!isRecomputing) {
            return facts.memoryCost(variable);
        }
        if (!facts.canRecompute(variable)) {
            throw new UnsupportedOperationException("the variable cannot be recomputed");
        }
        return facts.recomputingCost(variable);
    }

    // ---- plan

    public int plan(int k, boolean isRecomputing) throws IllegalArgumentException {
        if (k < 1 || k > VARIABLES) {
            throw new IllegalArgumentException("a plan has 1 to 12 registers");
        }
        analyse();
        currentPlan.make(k, isRecomputing);
        hasPlan = true;
        return currentPlan.countAt(IN_MEMORY);
    }

    public int home(int variable, int what)
            throws IllegalArgumentException, IllegalStateException {
        requireVariable(variable);
        if (what < 0 || what > 2) {
            throw new IllegalArgumentException("a home has the properties 0 to 2");
        }
        requirePlan();
        if (what == 0) {
            return currentPlan.places[variable];
        }
        return what == 1 ? currentPlan.colours[variable] : currentPlan.slots[variable];
    }

    public int promoted(int variable, int loop)
            throws IllegalArgumentException, IndexOutOfBoundsException, IllegalStateException,
            NoSuchElementException {
        requireVariable(variable);
        requireLoop(loop);
        requirePlan();
        int colour = currentPlan.loopColours[loop * VARIABLES + variable];
        if (colour == NONE) {
            throw new NoSuchElementException("the variable is not promoted in this loop");
        }
        return colour;
    }

    public int planned(int what) throws IllegalArgumentException, IllegalStateException {
        if (what < 0 || what > 4) {
            throw new IllegalArgumentException("a plan has the numbers 0 to 4");
        }
        requirePlan();
        switch (what) {
            case 0:
                return currentPlan.registers;
            case 1:
                return currentPlan.slotCount();
            case 2:
                return currentPlan.countAt(RECOMPUTED);
            case 3:
                return currentPlan.promotions;
            default:
                return currentPlan.totalCost();
        }
    }

    public int enough() {
        analyse();
        colourGreedily(facts.usedVariables(), facts.rivals, spareColours);
        // A plan has at least one register, even where no variable needs one.
        return Math.max(1, numbersInUse(spareColours));
    }

    // ---- execution

    public int run(int limit) throws IllegalArgumentException, ArithmeticException {
        requireLimit(limit);
        return resultOf(plainMachine, limit);
    }

    public int runPlanned(int limit)
            throws IllegalArgumentException, IllegalStateException, ArithmeticException {
        requireLimit(limit);
        requirePlan();
        return resultOf(planMachine, limit);
    }

    public int executed(int what) throws IllegalArgumentException {
        if (what < 0 || what >= latestCounts.length) {
            throw new IllegalArgumentException("an execution has the counts 0 to 3");
        }
        return latestCounts[what];
    }

    public int visits(int block) throws IndexOutOfBoundsException {
        requireBlock(block);
        return latestVisits[block];
    }

    public int profile() {
        int changes = 0;
        for (int b = 0; b < program.size; b++) {
            int frequency = Math.max(1, latestVisits[b]);
            if (program.blocks[b].frequency != frequency) {
                program.blocks[b].frequency = frequency;
                changes++;
            }
        }
        programChanged();
        return changes;
    }

    // ---- texts, snapshot

    public int feed(char character) throws IllegalStateException {
        if (reader.length >= MOST_INPUT) {
            throw new IllegalStateException("the input is full");
        }
        reader.input[reader.length] = character;
        reader.length++;
        return reader.length;
    }

    public int read(int block) throws IndexOutOfBoundsException {
        requireBlock(block);
        boolean isText = reader.parse(program.size);
        reader.length = 0;
        if (!isText) {
            return FAULT - reader.at;
        }
        program.blocks[block].copyCode(reader.draft);
        programChanged();
        return reader.draft.size;
    }

    public int saveSnapshot() {
        snapshot.copy(program);
        hasSnapshot = true;
        return program.size;
    }

    public int restoreSnapshot() throws IllegalStateException {
        if (!hasSnapshot) {
            throw new IllegalStateException("no snapshot was saved");
        }
        program.copy(snapshot);
        programChanged();
        return program.size;
    }

    // ---- what the methods of the face share

    private void programChanged() {
        hasPlan = false;
        isAnalysed = false;
    }

    private void analyse() {
        if (!isAnalysed) {
            facts.find();
            loopFinder.find();
            isAnalysed = true;
        }
    }

    private int resultOf(Machine machine, int limit) {
        if (!machine.execute(limit)) {
            throw new ArithmeticException("the limit is not enough");
        }
        latestCounts[0] = machine.steps;
        latestCounts[1] = machine.loads;
        latestCounts[2] = machine.stores;
        latestCounts[3] = machine.recomputations;
        System.arraycopy(machine.entered, 0, latestVisits, 0, MOST_BLOCKS);
        return machine.result;
    }

    private void requireBlock(int block) {
        if (block < 0 || block >= program.size) {
            throw new IndexOutOfBoundsException("there is no such block");
        }
    }

    private void requireVariable(int variable) {
        if (!isVariable(variable)) {
            throw new IllegalArgumentException("there is no such variable");
        }
    }

    private void requireLoop(int loop) {
        analyse();
        if (loop < 0 || loop >= loopFinder.count) {
            throw new IndexOutOfBoundsException("there is no such loop");
        }
    }

    private void requirePlan() {
        if (!hasPlan) {
            throw new IllegalStateException("there is no plan");
        }
    }

    private static void requireLimit(int limit) {
        if (limit < 1 || limit > MOST_STEPS) {
            throw new IllegalArgumentException("a limit is from 1 to 1000");
        }
    }

    private static boolean isVariable(int variable) {
        return variable >= 0 && variable < VARIABLES;
    }

    private static boolean isInstruction(int kind, int target, int a, int b) {
        if (kind < SET_CONSTANT || kind > MULTIPLY || !isVariable(target)) {
            return false;
        }
        if (kind == SET_CONSTANT) {
            return a >= -MOST_CONSTANT && a <= MOST_CONSTANT;
        }
        return isVariable(a) && (kind == COPY || isVariable(b));
    }

    private static boolean has(int set, int member) {
        return (set >> member & 1) != 0;
    }

    /** Numbers the members of a set; the others get NONE. */
    private static void colourGreedily(int set, int[] rivals, int[] colours) {
        for (int v = 0; v < VARIABLES; v++) {
            colours[v] = NONE;
            if (has(set, v)) {
                int taken = 0;
                for (int lower = 0; lower < v; lower++) {
                    if (has(set & rivals[v], lower)) {
                        taken |= 1 << colours[lower];
                    }
                }
                colours[v] = lowestMissing(taken);
            }
        }
    }

    private static int lowestMissing(int set) {
        int number = 0;
        while (number < VARIABLES && has(set, number)) {
            number++;
        }
        return number;
    }

    /** Greedy numbering leaves no gaps, so the greatest number tells how many there are. */
    private static int numbersInUse(int[] colours) {
        int greatest = NONE;
        for (int v = 0; v < VARIABLES; v++) {
            greatest = Math.max(greatest, colours[v]);
        }
        return greatest + 1;
    }

    /** The instructions, the end and the frequency of a block. */
    private static final class Block {
        final int[] kinds = new int[MOST_INSTRUCTIONS];
        final int[] targets = new int[MOST_INSTRUCTIONS];
        final int[] firsts = new int[MOST_INSTRUCTIONS];
        final int[] seconds = new int[MOST_INSTRUCTIONS];
        int size;
        int endKind;
        int endVariable;
        int endFirst;
        int endSecond;
        int frequency;

        Block() {
            begin();
        }

        void begin() {
            size = 0;
            finish(STOP, 0, NONE, NONE);
            frequency = 1;
        }

        void add(int kind, int target, int a, int b) {
            if (size < MOST_INSTRUCTIONS) {
                kinds[size] = kind;
                targets[size] = target;
                firsts[size] = a;
                seconds[size] = kind >= ADD ? b : NONE;
                size++;
            }
        }

        void finish(int kind, int variable, int first, int second) {
            endKind = kind;
            endVariable = kind == GO ? NONE : variable;
            endFirst = kind == STOP ? NONE : first;
            endSecond = kind == BRANCH ? second : NONE;
        }

        void copyCode(Block other) {
            System.arraycopy(other.kinds, 0, kinds, 0, MOST_INSTRUCTIONS);
            System.arraycopy(other.targets, 0, targets, 0, MOST_INSTRUCTIONS);
            System.arraycopy(other.firsts, 0, firsts, 0, MOST_INSTRUCTIONS);
            System.arraycopy(other.seconds, 0, seconds, 0, MOST_INSTRUCTIONS);
            size = other.size;
            finish(other.endKind, other.endVariable, other.endFirst, other.endSecond);
        }

        int usedBy(int i) {
            if (kinds[i] == SET_CONSTANT) {
                return 0;
            }
            int used = 1 << firsts[i];
            return kinds[i] == COPY ? used : used | 1 << seconds[i];
        }

        int usedByEnd() {
            return endKind == GO ? 0 : 1 << endVariable;
        }

        int successors() {
            if (endKind == STOP) {
                return 0;
            }
            return endKind == GO ? 1 << endFirst : 1 << endFirst | 1 << endSecond;
        }
    }

    /** The blocks, of which the first ones count, and the initial values. */
    private static final class Program {
        final Block[] blocks = new Block[MOST_BLOCKS];
        final int[] initial = new int[VARIABLES];
        int size;

        Program() {
            for (int b = 0; b < MOST_BLOCKS; b++) {
                blocks[b] = new Block();
            }
            size = 1;
        }

        void begin(int count) {
            for (int b = 0; b < MOST_BLOCKS; b++) {
                blocks[b].begin();
            }
            Arrays.fill(initial, 0);
            size = count;
        }

        void copy(Program other) {
            for (int b = 0; b < MOST_BLOCKS; b++) {
                blocks[b].copyCode(other.blocks[b]);
                blocks[b].frequency = other.blocks[b].frequency;
            }
            System.arraycopy(other.initial, 0, initial, 0, VARIABLES);
            size = other.size;
        }
    }

    /** What holds of the variables: liveness, uses, definitions, conflicts and costs. */
    private static final class Facts {
        final Program program;
        final int[] liveAt = new int[MOST_BLOCKS * POINTS];
        final int[] uses = new int[MOST_BLOCKS * VARIABLES];
        final int[] definitions = new int[MOST_BLOCKS * VARIABLES];
        final int[] rivals = new int[VARIABLES];
        final int[] constantDefinitions = new int[VARIABLES];
        final int[] constants = new int[VARIABLES];

        Facts(Program program) {
            this.program = program;
        }

        void find() {
            findLive();
            countUses();
            findRivals();
        }

        int liveAtBeginning(int block) {
            return liveAt[block * POINTS];
        }

        private void findLive() {
            Arrays.fill(liveAt, 0);
            // A pass lengthens the paths looked at by a block. From a block's beginning none needs
            // a block twice; from its other points a path may come back to its beginning.
            for (int pass = 0; pass <= program.size; pass++) {
                for (int b = program.size - 1; b >= 0; b--) {
                    findLiveIn(b);
                }
            }
        }

        private void findLiveIn(int b) {
            Block code = program.blocks[b];
            int next = code.successors();
            int set = code.usedByEnd();
            for (int s = 0; s < program.size; s++) {
                if (has(next, s)) {
                    set |= liveAtBeginning(s);
                }
            }
            liveAt[b * POINTS + code.size] = set;
            for (int i = code.size - 1; i >= 0; i--) {
                set = set & ~(1 << code.targets[i]) | code.usedBy(i);
                liveAt[b * POINTS + i] = set;
            }
        }

        private void countUses() {
            Arrays.fill(uses, 0);
            Arrays.fill(definitions, 0);
            Arrays.fill(constantDefinitions, 0);
            for (int b = 0; b < program.size; b++) {
                Block code = program.blocks[b];
                for (int i = 0; i < code.size; i++) {
                    int target = code.targets[i];
                    countSet(b, code.usedBy(i));
                    definitions[b * VARIABLES + target]++;
                    if (code.kinds[i] == SET_CONSTANT) {
                        constantDefinitions[target]++;
                        constants[target] = code.firsts[i];
                    }
                }
                countSet(b, code.usedByEnd());
            }
        }

        private void countSet(int block, int set) {
            for (int v = 0; v < VARIABLES; v++) {
                if (has(set, v)) {
                    uses[block * VARIABLES + v]++;
                }
            }
        }

        private void findRivals() {
            Arrays.fill(rivals, 0);
            for (int b = 0; b < program.size; b++) {
                Block code = program.blocks[b];
                for (int i = 0; i < code.size; i++) {
                    addRivals(code.targets[i], liveAt[b * POINTS + i + 1]);
                }
            }
            int atEntry = liveAtBeginning(0);
            for (int v = 0; v < VARIABLES; v++) {
                if (has(atEntry, v)) {
                    addRivals(v, atEntry);
                }
            }
        }

        private void addRivals(int variable, int set) {
            int others = set & ~(1 << variable);
            rivals[variable] |= others;
            for (int v = 0; v < VARIABLES; v++) {
                if (has(others, v)) {
                    rivals[v] |= 1 << variable;
                }
            }
        }

        int greatestLive() {
            int greatest = 0;
            for (int b = 0; b < program.size; b++) {
                for (int i = 0; i <= program.blocks[b].size; i++) {
                    greatest = Math.max(greatest, Integer.bitCount(liveAt[b * POINTS + i]));
                }
            }
            return greatest;
        }

        int usedVariables() {
            int set = 0;
            for (int b = 0; b < program.size; b++) {
                set |= mentionedIn(b);
            }
            return set;
        }

        int mentionedIn(int block) {
            return countedIn(block, uses) | definedIn(block);
        }

        int definedIn(int block) {
            return countedIn(block, definitions);
        }

        private static int countedIn(int block, int[] counts) {
            int set = 0;
            for (int v = 0; v < VARIABLES; v++) {
                if (counts[block * VARIABLES + v] > 0) {
                    set |= 1 << v;
                }
            }
            return set;
        }

        int memoryCost(int variable) {
            int weight = 0;
            for (int b = 0; b < program.size; b++) {
                weight += mentionWeight(b, variable);
            }
            if (has(liveAtBeginning(0), variable)) {
                weight += program.blocks[0].frequency;
            }
            return MEMORY_WEIGHT * weight;
        }

        int mentionWeight(int block, int variable) {
            int at = block * VARIABLES + variable;
            return program.blocks[block].frequency * (uses[at] + definitions[at]);
        }

        boolean canRecompute(int variable) {
            int all = has(liveAtBeginning(0), variable) ? 1 : 0;
            for (int b = 0; b < program.size; b++) {
                all += definitions[b * VARIABLES + variable];
            }
            return all == 1 && constantDefinitions[variable] == 1;
        }

        int recomputingCost(int variable) {
            int weight = 0;
            for (int b = 0; b < program.size; b++) {
                weight += program.blocks[b].frequency * uses[b * VARIABLES + variable];
            }
            return weight;
        }
    }

    /** The loops, in ascending order of their headers. */
    private static final class LoopFinder {
        final Program program;
        final int[] headers = new int[MOST_BLOCKS];
        final int[] members = new int[MOST_BLOCKS];
        int count;

        LoopFinder(Program program) {
            this.program = program;
        }

        void find() {
            count = 0;
            int reachable = reachableWithout(NONE);
            for (int h = 0; h < program.size; h++) {
                int dominated = reachable & ~reachableWithout(h);
                int returning = dominated & predecessors(1 << h);
                if (returning != 0) {
                    headers[count] = h;
                    members[count] = loopBlocks(h, returning, reachable);
                    count++;
                }
            }
        }

        private int reachableWithout(int barrier) {
            int allowed = barrier == NONE ? -1 : ~(1 << barrier);
            int set = 1 & allowed;
            for (int pass = 0; pass < program.size; pass++) {
                for (int b = 0; b < program.size; b++) {
                    if (has(set, b)) {
                        set |= program.blocks[b].successors() & allowed;
                    }
                }
            }
            return set;
        }

        private int loopBlocks(int header, int returning, int reachable) {
            int behind = returning & ~(1 << header);
            for (int pass = 0; pass < program.size; pass++) {
                behind |= predecessors(behind) & reachable & ~(1 << header);
            }
            return behind | 1 << header;
        }

        private int predecessors(int set) {
            int found = 0;
            for (int b = 0; b < program.size; b++) {
                if ((program.blocks[b].successors() & set) != 0) {
                    found |= 1 << b;
                }
            }
            return found;
        }

        boolean isWithin(int inner, int outer) {
            return (members[inner] & ~members[outer]) == 0;
        }

        int depth(int loop) {
            int around = 0;
            for (int other = 0; other < count; other++) {
                if (other != loop && isWithin(loop, other)) {
                    around++;
                }
            }
            return around;
        }

        /** A block number of NONE stands for what is before the program, outside every loop. */
        boolean contains(int loop, int block) {
            return block != NONE && has(members[loop], block);
        }
    }

    /** Where the variables live, and in which loops those in memory are promoted. */
    private static final class Plan {
        final Program program;
        final Facts facts;
        final LoopFinder loopFinder;
        final int[] places = new int[VARIABLES];
        final int[] colours = new int[VARIABLES];
        final int[] slots = new int[VARIABLES];
        final int[] loopColours = new int[MOST_BLOCKS * VARIABLES];
        final int[] presentIn = new int[MOST_BLOCKS];
        final int[] definedIn = new int[MOST_BLOCKS];
        int registers;
        int promotions;
        int gains;
        private boolean mayRecompute;

        Plan(Program program, Facts facts, LoopFinder loopFinder) {
            this.program = program;
            this.facts = facts;
            this.loopFinder = loopFinder;
        }

        void make(int k, boolean isRecomputing) {
            registers = k;
            mayRecompute = isRecomputing;
            placeUsedInRegisters();
            colourGreedily(variablesAt(IN_REGISTER), facts.rivals, colours);
            // Each round takes a variable out of the registers.
            for (int round = 0; round < VARIABLES && numbersInUse(colours) > k; round++) {
                takeOutOne();
                colourGreedily(variablesAt(IN_REGISTER), facts.rivals, colours);
            }
            colourGreedily(variablesAt(IN_MEMORY), facts.rivals, slots);
            surveyLoops();
            promoteAll();
        }

        private void placeUsedInRegisters() {
            int used = facts.usedVariables();
            for (int v = 0; v < VARIABLES; v++) {
                places[v] = has(used, v) ? IN_REGISTER : NONE;
            }
        }

        private void takeOutOne() {
            int over = firstOverRegisters();
            int candidates = (1 << over | facts.rivals[over]) & variablesAt(IN_REGISTER);
            int cheapest = over;
            int least = outsideCost(over);
            for (int v = 0; v < VARIABLES; v++) {
                if (has(candidates, v)) {
                    int outside = outsideCost(v);
                    if (outside < least || outside == least && v < cheapest) {
                        cheapest = v;
                        least = outside;
                    }
                }
            }
            places[cheapest] = wouldBeRecomputed(cheapest) ? RECOMPUTED : IN_MEMORY;
        }

        private int firstOverRegisters() {
            int v = 0;
            while (v < VARIABLES - 1 && colours[v] < registers) {
                v++;
            }
            return v;
        }

        private boolean wouldBeRecomputed(int variable) {
            return mayRecompute && facts.canRecompute(variable);
        }

        private int outsideCost(int variable) {
            return wouldBeRecomputed(variable)
                    ? facts.recomputingCost(variable) : facts.memoryCost(variable);
        }

        int variablesAt(int place) {
            int set = 0;
            for (int v = 0; v < VARIABLES; v++) {
                if (places[v] == place) {
                    set |= 1 << v;
                }
            }
            return set;
        }

        int countAt(int place) {
            return Integer.bitCount(variablesAt(place));
        }

        int slotCount() {
            return numbersInUse(slots);
        }

        int totalCost() {
            int sum = -gains;
            for (int v = 0; v < VARIABLES; v++) {
                if (places[v] == IN_MEMORY) {
                    sum += facts.memoryCost(v);
                } else if (places[v] == RECOMPUTED) {
                    sum += facts.recomputingCost(v);
                }
            }
            return sum;
        }

        private void surveyLoops() {
            for (int loop = 0; loop < loopFinder.count; loop++) {
                presentIn[loop] = 0;
                definedIn[loop] = 0;
                for (int b = 0; b < program.size; b++) {
                    if (loopFinder.contains(loop, b)) {
                        presentIn[loop] |= facts.liveAtBeginning(b) | facts.mentionedIn(b);
                        definedIn[loop] |= facts.definedIn(b);
                    }
                }
            }
        }

        private void promoteAll() {
            Arrays.fill(loopColours, NONE);
            promotions = 0;
            gains = 0;
            int visited = 0;
            for (int round = 0; round < loopFinder.count; round++) {
                int loop = nextLoop(visited);
                visited |= 1 << loop;
                for (int v = 0; v < VARIABLES; v++) {
                    if (places[v] == IN_MEMORY) {
                        promoteIfGainful(v, loop);
                    }
                }
            }
        }

        private int nextLoop(int visited) {
            int best = 0;
            int most = 0;
            for (int loop = 0; loop < loopFinder.count; loop++) {
                int frequency = program.blocks[loopFinder.headers[loop]].frequency;
                if (!has(visited, loop) && frequency > most) {
                    best = loop;
                    most = frequency;
                }
            }
            return best;
        }

        private void promoteIfGainful(int variable, int loop) {
            int gain = gainOf(variable, loop);
            if (gain <= 0 || isPromotedAround(variable, loop)) {
                return;
            }
            int colour = lowestMissing(coloursTakenIn(loop));
            if (colour < registers) {
                loopColours[loop * VARIABLES + variable] = colour;
                promotions++;
                gains += gain;
            }
        }

        private int gainOf(int variable, int loop) {
            int weight = 0;
            boolean isDefined = has(definedIn[loop], variable);
            for (int b = 0; b < program.size; b++) {
                if (!loopFinder.contains(loop, b)) {
                    weight -= loadsOnEdge(b, variable, loop) ? program.blocks[b].frequency : 0;
                } else {
                    weight += facts.mentionWeight(b, variable);
                    if (isDefined && isLiveOutside(b, variable, loop)) {
                        weight -= program.blocks[b].frequency;
                    }
                }
            }
            return MEMORY_WEIGHT * weight;
        }

        private boolean loadsOnEdge(int block, int variable, int loop) {
            int header = loopFinder.headers[loop];
            return has(program.blocks[block].successors(), header)
                    && has(facts.liveAtBeginning(header), variable);
        }

        private boolean isLiveOutside(int block, int variable, int loop) {
            int exits = program.blocks[block].successors() & ~loopFinder.members[loop];
            for (int b = 0; b < program.size; b++) {
                if (has(exits, b) && has(facts.liveAtBeginning(b), variable)) {
                    return true;
                }
            }
            return false;
        }

        private boolean isPromotedAround(int variable, int loop) {
            for (int other = 0; other < loopFinder.count; other++) {
                if (loopColours[other * VARIABLES + variable] != NONE
                        && (loopFinder.isWithin(other, loop) || loopFinder.isWithin(loop, other))) {
                    return true;
                }
            }
            return false;
        }

        private int coloursTakenIn(int loop) {
            int taken = 0;
            for (int v = 0; v < VARIABLES; v++) {
                if (has(presentIn[loop], v)) {
                    taken |= coloursOf(v, loopFinder.members[loop]);
                }
            }
            return taken;
        }

        /** The colours that a variable has in some of these blocks. */
        private int coloursOf(int variable, int blocks) {
            int set = places[variable] == IN_REGISTER ? 1 << colours[variable] : 0;
            for (int loop = 0; loop < loopFinder.count; loop++) {
                int colour = loopColours[loop * VARIABLES + variable];
                if (colour != NONE && (loopFinder.members[loop] & blocks) != 0) {
                    set |= 1 << colour;
                }
            }
            return set;
        }

        /** The register that holds a variable throughout a block, or NONE. */
        int registerIn(int block, int variable) {
            int register = colours[variable];
            for (int loop = 0; loop < loopFinder.count; loop++) {
                int colour = loopColours[loop * VARIABLES + variable];
                if (colour != NONE && has(loopFinder.members[loop], block)) {
                    register = colour;
                }
            }
            return register;
        }
    }

    /** Executes a program; where the variables are is up to the kind of machine. */
    private abstract static class Machine {
        final Program program;
        final int[] entered = new int[MOST_BLOCKS];
        int here;
        int steps;
        int loads;
        int stores;
        int recomputations;
        int result;

        Machine(Program program) {
            this.program = program;
        }

        abstract void prepare();

        abstract void enter(int from, int to);

        abstract int fetch(int variable);

        abstract void put(int variable, int value);

        /** Answers whether the program stopped within the limit. */
        boolean execute(int limit) {
            reset();
            prepare();
            moveTo(NONE, 0);
            int i = 0;
            for (steps = 1; steps <= limit; steps++) {
                Block code = program.blocks[here];
                if (i < code.size) {
                    put(code.targets[i], valueOf(code, i));
                    i++;
                } else if (code.endKind == STOP) {
                    result = fetch(code.endVariable);
                    return true;
                } else {
                    moveTo(here, nextBlock(code));
                    i = 0;
                }
            }
            return false;
        }

        private void reset() {
            Arrays.fill(entered, 0);
            loads = 0;
            stores = 0;
            recomputations = 0;
        }

        private void moveTo(int from, int to) {
            enter(from, to);
            here = to;
            entered[to]++;
        }

        private int nextBlock(Block code) {
            if (code.endKind == GO) {
                return code.endFirst;
            }
            return fetch(code.endVariable) != 0 ? code.endFirst : code.endSecond;
        }

        private int valueOf(Block code, int i) {
            if (code.kinds[i] == SET_CONSTANT) {
                return code.firsts[i];
            }
            int left = fetch(code.firsts[i]);
            if (code.kinds[i] == COPY) {
                return left;
            }
            int right = code.seconds[i] == code.firsts[i] ? left : fetch(code.seconds[i]);
            switch (code.kinds[i]) {
                case ADD:
                    return left + right;
                case SUBTRACT:
                    return left - right;
                default:
                    return left * right;
            }
        }
    }

    /** The machine without a plan: each variable has a place of its own. */
    private static final class PlainMachine extends Machine {
        final int[] values = new int[VARIABLES];

        PlainMachine(Program program) {
            super(program);
        }

        void prepare() {
            System.arraycopy(program.initial, 0, values, 0, VARIABLES);
        }

        void enter(int from, int to) {
        }

        int fetch(int variable) {
            return values[variable];
        }

        void put(int variable, int value) {
            values[variable] = value;
        }
    }

    /** The machine with registers, slots and two scratch registers, which follows a plan. */
    private static final class PlanMachine extends Machine {
        final Plan plan;
        final int[] registers = new int[VARIABLES];
        final int[] memory = new int[VARIABLES];
        final int[] scratch = new int[2];
        final int[] held = new int[2];
        int recent;

        PlanMachine(Program program, Plan plan) {
            super(program);
            this.plan = plan;
        }

        void prepare() {
            Arrays.fill(registers, 0);
            Arrays.fill(memory, 0);
            int atEntry = plan.facts.liveAtBeginning(0);
            for (int v = 0; v < VARIABLES; v++) {
                if (has(atEntry, v)) {
                    placeInitial(v);
                }
            }
        }

        private void placeInitial(int variable) {
            if (plan.places[variable] == IN_REGISTER) {
                registers[plan.colours[variable]] = program.initial[variable];
            } else if (plan.places[variable] == IN_MEMORY) {
                memory[plan.slots[variable]] = program.initial[variable];
            }
        }

        void enter(int from, int to) {
            for (int loop = 0; loop < plan.loopFinder.count; loop++) {
                if (plan.loopFinder.contains(loop, from) && !plan.loopFinder.contains(loop, to)) {
                    storePromoted(loop, to);
                }
            }
            for (int loop = 0; loop < plan.loopFinder.count; loop++) {
                if (plan.loopFinder.headers[loop] == to && !plan.loopFinder.contains(loop, from)) {
                    loadPromoted(loop, to);
                }
            }
            held[0] = NONE;
            held[1] = NONE;
            recent = 1;
        }

        private void storePromoted(int loop, int to) {
            int needed = plan.facts.liveAtBeginning(to) & plan.definedIn[loop];
            for (int v = 0; v < VARIABLES; v++) {
                int colour = plan.loopColours[loop * VARIABLES + v];
                if (colour != NONE && has(needed, v)) {
                    memory[plan.slots[v]] = registers[colour];
                    stores++;
                }
            }
        }

        private void loadPromoted(int loop, int to) {
            int needed = plan.facts.liveAtBeginning(to);
            for (int v = 0; v < VARIABLES; v++) {
                int colour = plan.loopColours[loop * VARIABLES + v];
                if (colour != NONE && has(needed, v)) {
                    registers[colour] = memory[plan.slots[v]];
                    loads++;
                }
            }
        }

        int fetch(int variable) {
            if (plan.places[variable] == RECOMPUTED) {
                recomputations++;
                return plan.facts.constants[variable];
            }
            int register = plan.registerIn(here, variable);
            return register != NONE ? registers[register] : fetchFromMemory(variable);
        }

        private int fetchFromMemory(int variable) {
            int chosen = scratchFor(variable);
            if (held[chosen] != variable) {
                held[chosen] = variable;
                scratch[chosen] = memory[plan.slots[variable]];
                loads++;
            }
            recent = chosen;
            return scratch[chosen];
        }

        void put(int variable, int value) {
            if (plan.places[variable] == RECOMPUTED) {
                return;
            }
            int register = plan.registerIn(here, variable);
            if (register != NONE) {
                registers[register] = value;
            } else {
                putInMemory(variable, value);
            }
        }

        private void putInMemory(int variable, int value) {
            int chosen = scratchFor(variable);
            held[chosen] = variable;
            scratch[chosen] = value;
            recent = chosen;
            memory[plan.slots[variable]] = value;
            stores++;
        }

        /** The scratch register that holds the variable, or else the one used less recently. */
        private int scratchFor(int variable) {
            if (held[0] == variable) {
                return 0;
            }
            return held[1] == variable ? 1 : 1 - recent;
        }
    }

    /** The input, and the parser that turns it into a draft of a block. */
    private static final class Reader {
        final char[] input = new char[MOST_INPUT];
        final Block draft = new Block();
        int length;
        int at;
        private int blocks;

        /** Answers whether the input is a text; if not, at is the fault position. */
        boolean parse(int blockCount) {
            blocks = blockCount;
            at = 0;
            draft.begin();
            for (int i = 0; i < MOST_INSTRUCTIONS && startsInstruction(); i++) {
                if (!parseInstruction()) {
                    return false;
                }
            }
            return parseEnding() && at == length;
        }

        /** The ends "go" and "if" begin with letters that are variables too. */
        private boolean startsInstruction() {
            char first = signAt(at);
            char second = signAt(at + 1);
            boolean isEnding = first == 'g' && second == 'o' || first == 'i' && second == 'f';
            return first >= 'a' && first <= 'l' && !isEnding;
        }

        private boolean parseInstruction() {
            int target = takeVariable();
            if (target == NONE || !take('=')) {
                return false;
            }
            boolean isRight = signAt(at) == '-' || isDigit(signAt(at))
                    ? parseConstant(target) : parseVariables(target);
            return isRight && take(';');
        }

        private boolean parseConstant(int target) {
            boolean isNegative = take('-');
            int value = 0;
            int digits = 0;
            while (digits < 3 && isDigit(signAt(at))) {
                value = value * 10 + (signAt(at) - '0');
                at++;
                digits++;
            }
            draft.add(SET_CONSTANT, target, isNegative ? -value : value, NONE);
            return digits > 0;
        }

        private boolean parseVariables(int target) {
            int left = takeVariable();
            if (left == NONE) {
                return false;
            }
            int kind = takeOperator();
            int right = kind == COPY ? NONE : takeVariable();
            draft.add(kind, target, left, right);
            return kind == COPY || right != NONE;
        }

        private int takeOperator() {
            if (take('+')) {
                return ADD;
            }
            if (take('-')) {
                return SUBTRACT;
            }
            return take('*') ? MULTIPLY : COPY;
        }

        private boolean parseEnding() {
            if (signAt(at) == 'g') {
                return takeWord("go ") && finishDraft(GO, NONE, takeBlock(), NONE);
            }
            if (signAt(at) == 'i') {
                return takeWord("if ") && parseBranch();
            }
            return takeWord("stop ") && finishDraft(STOP, takeVariable(), NONE, NONE);
        }

        private boolean parseBranch() {
            int variable = takeVariable();
            if (variable == NONE || !take(' ')) {
                return false;
            }
            int first = takeBlock();
            if (first == NONE || !take(' ')) {
                return false;
            }
            return finishDraft(BRANCH, variable, first, takeBlock());
        }

        /** Refuses an end one of whose parts was not there to be taken. */
        private boolean finishDraft(int kind, int variable, int first, int second) {
            boolean lacksVariable = kind != GO && variable == NONE;
            boolean lacksFirst = kind != STOP && first == NONE;
            boolean lacksSecond = kind == BRANCH && second == NONE;
            if (lacksVariable || lacksFirst || lacksSecond) {
                return false;
            }
            draft.finish(kind, variable, first, second);
            return true;
        }

        private boolean takeWord(String word) {
            for (int i = 0; i < word.length(); i++) {
                if (!take(word.charAt(i))) {
                    return false;
                }
            }
            return true;
        }

        private boolean take(char sign) {
            if (at >= length || input[at] != sign) {
                return false;
            }
            at++;
            return true;
        }

        private int takeVariable() {
            char sign = signAt(at);
            if (sign < 'a' || sign > 'l') {
                return NONE;
            }
            at++;
            return sign - 'a';
        }

        private int takeBlock() {
            char sign = signAt(at);
            if (!isDigit(sign) || sign - '0' >= blocks) {
                return NONE;
            }
            at++;
            return sign - '0';
        }

        /** Behind the input stands a sign that no text has. */
        private char signAt(int offset) {
            return offset < length ? input[offset] : (char) 0;
        }

        private static boolean isDigit(char sign) {
            return sign >= '0' && sign <= '9';
        }
    }
}
