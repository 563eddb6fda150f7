import java.util.ArrayList;
import java.util.Arrays;
import java.util.Comparator;
import java.util.HashMap;
import java.util.HashSet;
import java.util.List;
import java.util.Map;
import java.util.NoSuchElementException;
import java.util.Set;
import java.util.TreeMap;
import java.util.TreeSet;
import java.util.regex.Matcher;
import java.util.regex.Pattern;

/**
 * The document once more, written for closeness to its words and not for speed: each question is
 * answered from the program itself, by search along paths and over sets.
 */
final class Model {
    /** kind, target, a, b */
    private List<List<int[]>> code = new ArrayList<>();
    /** kind, variable, first, second */
    private List<int[]> ends = new ArrayList<>();
    private List<Integer> frequencies = new ArrayList<>();
    private int[] initial = new int[12];
    private Model saved;
    private String input = "";
    private int[] counts = new int[4];
    private int[] visited = new int[8];
    private PlanMade plan;

    private static final class PlanMade {
        int k;
        final Map<Integer, Integer> colour = new TreeMap<>();
        final Map<Integer, Integer> slot = new TreeMap<>();
        final Set<Integer> recomputed = new TreeSet<>();
        /** by header: variable to colour */
        final Map<Integer, Map<Integer, Integer>> promoted = new TreeMap<>();
        int sum;
    }

    Model() {
        begin(1);
    }

    private void begin(int blocks) {
        code = new ArrayList<>();
        ends = new ArrayList<>();
        frequencies = new ArrayList<>();
        for (int b = 0; b < blocks; b++) {
            code.add(new ArrayList<>());
            ends.add(new int[] {2, 0, -1, -1});
            frequencies.add(1);
        }
        initial = new int[12];
        plan = null;
    }

    private int size() {
        return code.size();
    }

    private void needBlock(int b) {
        if (b < 0 || b >= size()) {
            throw new IndexOutOfBoundsException();
        }
    }

    private static void need(boolean holds) {
        if (!holds) {
            throw new IllegalArgumentException();
        }
    }

    private void needPlan() {
        if (plan == null) {
            throw new IllegalStateException();
        }
    }

    private static boolean isVariable(int v) {
        return 0 <= v && v < 12;
    }

    // ---- program

    int clear(int blocks) {
        need(blocks >= 1 && blocks <= 8);
        int before = size();
        begin(blocks);
        return before;
    }

    int append(int block, int kind, int target, int a, int b) {
        needBlock(block);
        need(kind >= 0 && kind <= 4);
        need(isVariable(target));
        need(kind == 0 ? Math.abs((long) a) <= 999 : isVariable(a));
        need(kind < 2 || isVariable(b));
        if (code.get(block).size() == 8) {
            throw new IllegalStateException();
        }
        code.get(block).add(new int[] {kind, target, a, kind < 2 ? -1 : b});
        plan = null;
        return code.get(block).size();
    }

    int removeLast(int block) {
        needBlock(block);
        List<int[]> list = code.get(block);
        if (list.isEmpty()) {
            throw new NoSuchElementException();
        }
        plan = null;
        return list.remove(list.size() - 1)[0];
    }

    int setEnd(int block, int kind, int variable, int first, int second) {
        needBlock(block);
        if (kind == 0) {
            needBlock(first);
        }
        if (kind == 1) {
            needBlock(first);
            needBlock(second);
        }
        need(kind >= 0 && kind <= 2);
        need(kind == 0 || isVariable(variable));
        int before = ends.get(block)[0];
        ends.set(block, new int[] {kind, kind == 0 ? -1 : variable, kind == 2 ? -1 : first,
            kind == 1 ? second : -1});
        plan = null;
        return before;
    }

    int setFrequency(int block, int frequency) {
        needBlock(block);
        need(frequency >= 1 && frequency <= 9999);
        plan = null;
        return frequencies.set(block, frequency);
    }

    int setInitial(int variable, int value) {
        need(isVariable(variable));
        int before = initial[variable];
        initial[variable] = value;
        plan = null;
        return before;
    }

    int instruction(int block, int i, int what) {
        needBlock(block);
        if (i < 0 || i >= code.get(block).size()) {
            throw new IndexOutOfBoundsException();
        }
        need(what >= 0 && what <= 3);
        return code.get(block).get(i)[what];
    }

    int block(int block, int what) {
        needBlock(block);
        need(what >= 0 && what <= 5);
        return what == 0 ? code.get(block).size()
            : what == 5 ? frequencies.get(block) : ends.get(block)[what - 1];
    }

    // ---- uses and liveness

    private static Set<Integer> right(int[] instruction) {
        Set<Integer> set = new TreeSet<>();
        if (instruction[0] > 0) {
            set.add(instruction[2]);
        }
        if (instruction[0] > 1) {
            set.add(instruction[3]);
        }
        return set;
    }

    private Set<Integer> goesTo(int block) {
        Set<Integer> set = new TreeSet<>();
        int[] end = ends.get(block);
        if (end[0] < 2) {
            set.add(end[2]);
        }
        if (end[0] == 1) {
            set.add(end[3]);
        }
        return set;
    }

    private boolean isLive(int v, int block, int i, Set<Integer> seen) {
        if (!seen.add(block * 100 + i)) {
            return false;
        }
        if (i < code.get(block).size()) {
            int[] instruction = code.get(block).get(i);
            if (right(instruction).contains(v)) {
                return true;
            }
            return instruction[1] != v && isLive(v, block, i + 1, seen);
        }
        if (ends.get(block)[1] == v) {
            return true;
        }
        for (int next : goesTo(block)) {
            if (isLive(v, next, 0, seen)) {
                return true;
            }
        }
        return false;
    }

    private boolean isLive(int v, int block, int i) {
        return isLive(v, block, i, new HashSet<>());
    }

    int live(int block, int i) {
        needBlock(block);
        if (i < 0 || i > code.get(block).size()) {
            throw new IndexOutOfBoundsException();
        }
        int set = 0;
        for (int v = 0; v < 12; v++) {
            set += isLive(v, block, i) ? 1 << v : 0;
        }
        return set;
    }

    private boolean conflict(int v, int w) {
        if (v == w) {
            return false;
        }
        for (int b = 0; b < size(); b++) {
            for (int i = 0; i < code.get(b).size(); i++) {
                int target = code.get(b).get(i)[1];
                if (target == v && isLive(w, b, i + 1) || target == w && isLive(v, b, i + 1)) {
                    return true;
                }
            }
        }
        return isLive(v, 0, 0) && isLive(w, 0, 0);
    }

    int conflicts(int variable) {
        need(isVariable(variable));
        int set = 0;
        for (int w = 0; w < 12; w++) {
            set += conflict(variable, w) ? 1 << w : 0;
        }
        return set;
    }

    int pressure() {
        int most = 0;
        for (int b = 0; b < size(); b++) {
            for (int i = 0; i <= code.get(b).size(); i++) {
                most = Math.max(most, Integer.toBinaryString(live(b, i)).replace("0", "").length());
            }
        }
        return most;
    }

    // ---- loops

    /** Whether there is a path that has its ends, and none of its blocks is the barrier. */
    private boolean isPath(int from, int to, int barrier, Set<Integer> seen) {
        if (from == barrier || !seen.add(from)) {
            return false;
        }
        if (from == to) {
            return true;
        }
        for (int next : goesTo(from)) {
            if (isPath(next, to, barrier, seen)) {
                return true;
            }
        }
        return false;
    }

    private boolean isReached(int block) {
        return isPath(0, block, -1, new HashSet<>());
    }

    private boolean dominates(int h, int u) {
        return !isPath(0, u, h, new HashSet<>());
    }

    /** header to blocks */
    private TreeMap<Integer, Set<Integer>> allLoops() {
        TreeMap<Integer, Set<Integer>> all = new TreeMap<>();
        for (int h = 0; h < size(); h++) {
            for (int u = 0; u < size(); u++) {
                if (isReached(u) && goesTo(u).contains(h) && dominates(h, u)) {
                    Set<Integer> loop = all.computeIfAbsent(h, x -> new TreeSet<>(Set.of(x)));
                    for (int b = 0; b < size(); b++) {
                        if (isReached(b) && isPath(b, u, h, new HashSet<>())) {
                            loop.add(b);
                        }
                    }
                }
            }
        }
        return all;
    }

    int loops() {
        return allLoops().size();
    }

    private int headerOf(int loop) {
        List<Integer> headers = new ArrayList<>(allLoops().keySet());
        if (loop < 0 || loop >= headers.size()) {
            throw new IndexOutOfBoundsException();
        }
        return headers.get(loop);
    }

    int loop(int loop, int what) {
        int header = headerOf(loop);
        need(what >= 0 && what <= 2);
        Set<Integer> blocks = allLoops().get(header);
        if (what == 0) {
            return header;
        }
        if (what == 1) {
            return blocks.stream().mapToInt(b -> 1 << b).sum();
        }
        int around = 0;
        for (Map.Entry<Integer, Set<Integer>> other : allLoops().entrySet()) {
            around += other.getKey() != header && other.getValue().containsAll(blocks) ? 1 : 0;
        }
        return around;
    }

    // ---- costs

    /** The blocks of the uses, one entry for each use. */
    private List<Integer> usesOf(int v) {
        List<Integer> list = new ArrayList<>();
        for (int b = 0; b < size(); b++) {
            for (int[] instruction : code.get(b)) {
                if (right(instruction).contains(v)) {
                    list.add(b);
                }
            }
            if (ends.get(b)[1] == v) {
                list.add(b);
            }
        }
        return list;
    }

    /** The blocks of the definitions by instructions, one entry for each. */
    private List<Integer> definitionsOf(int v) {
        List<Integer> list = new ArrayList<>();
        for (int b = 0; b < size(); b++) {
            for (int[] instruction : code.get(b)) {
                if (instruction[1] == v) {
                    list.add(b);
                }
            }
        }
        return list;
    }

    private int frequencySum(List<Integer> blocks) {
        return blocks.stream().mapToInt(b -> frequencies.get(b)).sum();
    }

    private int memoryCost(int v) {
        int entry = isLive(v, 0, 0) ? frequencies.get(0) : 0;
        return 3 * (frequencySum(usesOf(v)) + frequencySum(definitionsOf(v)) + entry);
    }

    /** The constant of a variable that can be recomputed, or null. */
    private Integer constantOf(int v) {
        if (isLive(v, 0, 0) || definitionsOf(v).size() != 1) {
            return null;
        }
        for (int[] instruction : code.get(definitionsOf(v).get(0))) {
            if (instruction[1] == v && instruction[0] == 0) {
                return instruction[2];
            }
        }
        return null;
    }

    int cost(int variable, boolean isRecomputing) {
        need(isVariable(variable));
        if (isRecomputing && constantOf(variable) == null) {
            throw new UnsupportedOperationException();
        }
        return isRecomputing ? frequencySum(usesOf(variable)) : memoryCost(variable);
    }

    // ---- plan

    private boolean isUsed(int v) {
        return !usesOf(v).isEmpty() || !definitionsOf(v).isEmpty();
    }

    private Map<Integer, Integer> number(Set<Integer> members) {
        TreeMap<Integer, Integer> numbers = new TreeMap<>();
        for (int v : new TreeSet<>(members)) {
            Set<Integer> taken = new HashSet<>();
            numbers.forEach((w, n) -> {
                if (conflict(v, w)) {
                    taken.add(n);
                }
            });
            int n = 0;
            while (taken.contains(n)) {
                n++;
            }
            numbers.put(v, n);
        }
        return numbers;
    }

    private PlanMade make(int k, boolean isRecomputing) {
        PlanMade made = new PlanMade();
        made.k = k;
        Set<Integer> in = new TreeSet<>();
        Set<Integer> memory = new TreeSet<>();
        for (int v = 0; v < 12; v++) {
            if (isUsed(v)) {
                in.add(v);
            }
        }
        while (true) {
            Map<Integer, Integer> numbers = number(in);
            Integer f = null;
            for (int v : in) {
                if (f == null && numbers.get(v) >= k) {
                    f = v;
                }
            }
            if (f == null) {
                made.colour.putAll(numbers);
                break;
            }
            List<Integer> candidates = new ArrayList<>();
            for (int v : in) {
                if (v == f || conflict(v, f)) {
                    candidates.add(v);
                }
            }
            candidates.sort(Comparator.comparingInt((Integer v) ->
                isRecomputing && constantOf(v) != null ? frequencySum(usesOf(v)) : memoryCost(v))
                .thenComparingInt(v -> v));
            int out = candidates.get(0);
            in.remove(out);
            if (isRecomputing && constantOf(out) != null) {
                made.recomputed.add(out);
                made.sum += frequencySum(usesOf(out));
            } else {
                memory.add(out);
                made.sum += memoryCost(out);
            }
        }
        made.slot.putAll(number(memory));
        promote(made);
        return made;
    }

    private boolean isPresent(int v, Set<Integer> loop) {
        for (int b : loop) {
            if (isLive(v, b, 0) || usesOf(v).contains(b) || definitionsOf(v).contains(b)) {
                return true;
            }
        }
        return false;
    }

    private boolean isDefinedIn(int v, Set<Integer> loop) {
        return definitionsOf(v).stream().anyMatch(loop::contains);
    }

    private int gain(int v, int header, Set<Integer> loop) {
        List<Integer> good = new ArrayList<>(usesOf(v));
        good.addAll(definitionsOf(v));
        good.removeIf(b -> !loop.contains(b));
        Set<Integer> bad = new TreeSet<>();
        for (int b = 0; b < size(); b++) {
            if (!loop.contains(b) && goesTo(b).contains(header) && isLive(v, header, 0)) {
                bad.add(b);
            }
            if (loop.contains(b) && isDefinedIn(v, loop)) {
                for (int next : goesTo(b)) {
                    if (!loop.contains(next) && isLive(v, next, 0)) {
                        bad.add(b);
                    }
                }
            }
        }
        return 3 * frequencySum(good) - 3 * frequencySum(new ArrayList<>(bad));
    }

    private void promote(PlanMade made) {
        TreeMap<Integer, Set<Integer>> all = allLoops();
        List<Integer> headers = new ArrayList<>(all.keySet());
        headers.sort((h, g) -> Integer.compare(frequencies.get(g), frequencies.get(h)));
        for (int h : all.keySet()) {
            made.promoted.put(h, new TreeMap<>());
        }
        for (int h : headers) {
            Set<Integer> loop = all.get(h);
            for (int v : made.slot.keySet()) {
                int gain = gain(v, h, loop);
                boolean isAround = false;
                for (int g : headers) {
                    isAround |= made.promoted.get(g).containsKey(v)
                        && (all.get(g).containsAll(loop) || loop.containsAll(all.get(g)));
                }
                Set<Integer> taken = takenIn(made, all, loop);
                int c = 0;
                while (taken.contains(c)) {
                    c++;
                }
                if (gain > 0 && !isAround && c < made.k) {
                    made.promoted.get(h).put(v, c);
                    made.sum -= gain;
                }
            }
        }
    }

    private Set<Integer> takenIn(PlanMade made, Map<Integer, Set<Integer>> all, Set<Integer> loop) {
        Set<Integer> taken = new HashSet<>();
        for (int w = 0; w < 12; w++) {
            if (!isPresent(w, loop)) {
                continue;
            }
            if (made.colour.containsKey(w)) {
                taken.add(made.colour.get(w));
            }
            for (Map.Entry<Integer, Set<Integer>> other : all.entrySet()) {
                Integer c = made.promoted.get(other.getKey()).get(w);
                if (c != null && other.getValue().stream().anyMatch(loop::contains)) {
                    taken.add(c);
                }
            }
        }
        return taken;
    }

    int plan(int k, boolean isRecomputing) {
        need(k >= 1 && k <= 12);
        plan = make(k, isRecomputing);
        return plan.slot.size();
    }

    int home(int variable, int what) {
        need(isVariable(variable));
        need(what >= 0 && what <= 2);
        needPlan();
        if (what == 0) {
            return plan.colour.containsKey(variable) ? 0 : plan.slot.containsKey(variable) ? 1
                : plan.recomputed.contains(variable) ? 2 : -1;
        }
        return (what == 1 ? plan.colour : plan.slot).getOrDefault(variable, -1);
    }

    int promoted(int variable, int loop) {
        need(isVariable(variable));
        int header = headerOf(loop);
        needPlan();
        Integer colour = plan.promoted.get(header).get(variable);
        if (colour == null) {
            throw new NoSuchElementException();
        }
        return colour;
    }

    int planned(int what) {
        need(what >= 0 && what <= 4);
        needPlan();
        switch (what) {
            case 0:
                return plan.k;
            case 1:
                return new HashSet<>(plan.slot.values()).size();
            case 2:
                return plan.recomputed.size();
            case 3:
                return plan.promoted.values().stream().mapToInt(Map::size).sum();
            default:
                return plan.sum;
        }
    }

    int enough() {
        int k = 1;
        while (!make(k, false).slot.isEmpty()) {
            k++;
        }
        return k;
    }

    // ---- execution

    private static int compute(int kind, int a, int b) {
        return (int) (kind == 2 ? (long) a + b : kind == 3 ? (long) a - b : (long) a * b);
    }

    int run(int limit) {
        need(limit >= 1 && limit <= 1000);
        int[] values = initial.clone();
        int[] counted = new int[4];
        int[] entered = new int[8];
        int block = 0;
        while (true) {
            entered[block]++;
            for (int[] it : code.get(block)) {
                step(counted, limit);
                values[it[1]] = it[0] == 0 ? it[2] : it[0] == 1 ? values[it[2]]
                    : compute(it[0], values[it[2]], values[it[3]]);
            }
            step(counted, limit);
            int[] end = ends.get(block);
            if (end[0] == 2) {
                counts = counted;
                visited = entered;
                return values[end[1]];
            }
            block = end[0] == 1 && values[end[1]] == 0 ? end[3] : end[2];
        }
    }

    private static void step(int[] counted, int limit) {
        if (counted[0] == limit) {
            throw new ArithmeticException();
        }
        counted[0]++;
    }

    /** The machine with a plan. */
    private final class Planned {
        final Map<Integer, Integer> registers = new HashMap<>();
        final Map<Integer, Integer> slots = new HashMap<>();
        /** Pairs of variable and value, the one used less recently first; null holds nothing. */
        final List<int[]> scratch = new ArrayList<>();
        final int[] counted = new int[4];
        final TreeMap<Integer, Set<Integer>> all = allLoops();
        int block;

        Integer registerOf(int v) {
            if (plan.colour.containsKey(v)) {
                return plan.colour.get(v);
            }
            for (Map.Entry<Integer, Set<Integer>> loop : all.entrySet()) {
                Integer colour = plan.promoted.get(loop.getKey()).get(v);
                if (colour != null && loop.getValue().contains(block)) {
                    return colour;
                }
            }
            return null;
        }

        int[] inScratch(int v) {
            for (int[] pair : scratch) {
                if (pair != null && pair[0] == v) {
                    return pair;
                }
            }
            return null;
        }

        void use(int[] old, int[] now) {
            if (old == null) {
                scratch.remove(0);
            } else {
                scratch.remove(old);
            }
            scratch.add(now);
        }

        int get(int v) {
            if (plan.recomputed.contains(v)) {
                counted[3]++;
                return constantOf(v);
            }
            Integer register = registerOf(v);
            if (register != null) {
                return registers.get(register);
            }
            int[] pair = inScratch(v);
            int[] now = pair;
            if (pair == null) {
                now = new int[] {v, slots.get(plan.slot.get(v))};
                counted[1]++;
            }
            use(pair, now);
            return now[1];
        }

        void set(int v, int value) {
            if (plan.recomputed.contains(v)) {
                return;
            }
            Integer register = registerOf(v);
            if (register != null) {
                registers.put(register, value);
                return;
            }
            use(inScratch(v), new int[] {v, value});
            slots.put(plan.slot.get(v), value);
            counted[2]++;
        }

        void go(int from, int to) {
            all.forEach((h, loop) -> plan.promoted.get(h).forEach((v, colour) -> {
                if (loop.contains(from) && !loop.contains(to) && isDefinedIn(v, loop)
                    && isLive(v, to, 0)) {
                    slots.put(plan.slot.get(v), registers.get(colour));
                    counted[2]++;
                }
            }));
            all.forEach((h, loop) -> plan.promoted.get(h).forEach((v, colour) -> {
                if (h == to && !loop.contains(from) && isLive(v, to, 0)) {
                    registers.put(colour, slots.get(plan.slot.get(v)));
                    counted[1]++;
                }
            }));
            block = to;
            scratch.clear();
            scratch.addAll(Arrays.asList(null, null));
        }

        void begin() {
            for (int v = 0; v < 12; v++) {
                if (isLive(v, 0, 0)) {
                    if (plan.colour.containsKey(v)) {
                        registers.put(plan.colour.get(v), initial[v]);
                    } else {
                        slots.put(plan.slot.get(v), initial[v]);
                    }
                }
            }
            go(-1, 0);
        }
    }

    int runPlanned(int limit) {
        need(limit >= 1 && limit <= 1000);
        needPlan();
        Planned machine = new Planned();
        int[] entered = new int[8];
        machine.begin();
        while (true) {
            entered[machine.block]++;
            for (int[] it : code.get(machine.block)) {
                step(machine.counted, limit);
                Map<Integer, Integer> values = new HashMap<>();
                for (int j = 2; j <= (it[0] == 0 ? 1 : it[0] == 1 ? 2 : 3); j++) {
                    if (!values.containsKey(it[j])) {
                        values.put(it[j], machine.get(it[j]));
                    }
                }
                machine.set(it[1], it[0] == 0 ? it[2] : it[0] == 1 ? values.get(it[2])
                    : compute(it[0], values.get(it[2]), values.get(it[3])));
            }
            step(machine.counted, limit);
            int[] end = ends.get(machine.block);
            if (end[0] == 2) {
                int result = machine.get(end[1]);
                counts = machine.counted;
                visited = entered;
                return result;
            }
            boolean goesSecond = end[0] == 1 && machine.get(end[1]) == 0;
            machine.go(machine.block, goesSecond ? end[3] : end[2]);
        }
    }

    int executed(int what) {
        need(what >= 0 && what <= 3);
        return counts[what];
    }

    int visits(int block) {
        needBlock(block);
        return visited[block];
    }

    int profile() {
        int changes = 0;
        for (int b = 0; b < size(); b++) {
            int now = visited[b] == 0 ? 1 : visited[b];
            changes += frequencies.set(b, now) == now ? 0 : 1;
        }
        plan = null;
        return changes;
    }

    // ---- texts, snapshot

    int feed(char character) {
        if (input.length() == 80) {
            throw new IllegalStateException();
        }
        input += character;
        return input.length();
    }

    int read(int block) {
        needBlock(block);
        String text = input;
        input = "";
        String digit = "[0-" + (size() - 1) + "]";
        Pattern grammar = Pattern.compile("(?:[a-l]=(?:-?[0-9]{1,3}|[a-l](?:[-+*][a-l])?);){0,8}"
            + "(?:go " + digit + "|if [a-l] " + digit + " " + digit + "|stop [a-l])");
        for (int n = 0; n <= text.length(); n++) {
            Matcher start = grammar.matcher(text.substring(0, n));
            if (!start.matches() && !start.hitEnd()) {
                return -100 - (n - 1);
            }
        }
        if (!grammar.matcher(text).matches()) {
            return -100 - text.length();
        }
        replace(block, text.split(";"));
        return code.get(block).size();
    }

    private void replace(int block, String[] parts) {
        List<int[]> list = new ArrayList<>();
        for (int i = 0; i < parts.length - 1; i++) {
            String expression = parts[i].substring(2);
            int target = parts[i].charAt(0) - 'a';
            int a = expression.charAt(0) - 'a';
            if (expression.matches("-?[0-9]+")) {
                list.add(new int[] {0, target, Integer.parseInt(expression), -1});
            } else if (expression.length() == 1) {
                list.add(new int[] {1, target, a, -1});
            } else {
                list.add(new int[] {2 + "+-*".indexOf(expression.charAt(1)), target, a,
                    expression.charAt(2) - 'a'});
            }
        }
        code.set(block, list);
        String[] end = parts[parts.length - 1].split(" ");
        if (end[0].equals("go")) {
            ends.set(block, new int[] {0, -1, Integer.parseInt(end[1]), -1});
        } else if (end[0].equals("if")) {
            ends.set(block, new int[] {1, end[1].charAt(0) - 'a', Integer.parseInt(end[2]),
                Integer.parseInt(end[3])});
        } else {
            ends.set(block, new int[] {2, end[1].charAt(0) - 'a', -1, -1});
        }
        plan = null;
    }

    private void take(Model other) {
        code = new ArrayList<>();
        for (List<int[]> list : other.code) {
            code.add(new ArrayList<>(list));
        }
        ends = new ArrayList<>(other.ends);
        frequencies = new ArrayList<>(other.frequencies);
        initial = other.initial.clone();
    }

    int saveSnapshot() {
        saved = new Model();
        saved.take(this);
        return size();
    }

    int restoreSnapshot() {
        if (saved == null) {
            throw new IllegalStateException();
        }
        take(saved);
        plan = null;
        return size();
    }
}
