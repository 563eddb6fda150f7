import java.io.File;
import java.io.PrintWriter;
import java.io.StringWriter;
import java.util.ArrayList;
import java.util.Arrays;
import java.util.HashMap;
import java.util.List;
import java.util.Map;
import java.util.Set;
import java.util.TreeMap;
import java.util.TreeSet;
import java.util.regex.Matcher;
import java.util.regex.Pattern;
import java.util.spi.ToolProvider;

/**
 * The rules of LANGUAGE.md that show in what the compiled methods call: the library, the depth of
 * calls, recursion, and constructors that call what could be overridden.
 */
public final class CallGraphTest {
    private static final int MOST_DEEP = 8;
    private static final Pattern CLASS =
        Pattern.compile("(?m)^.*class (\\S+)(?: extends (\\S+))? \\{$");
    private static final Pattern METHOD =
        Pattern.compile("  (?:[\\w$\\[\\].]+ )*([\\w$]+)\\(.*\\)(?: throws .*)?;");
    private static final Pattern CALLED =
        Pattern.compile(".*// (?:Interface)?Method (?:([\\w$/]+)\\.)?\"?([\\w<>$]+)\"?:.*");
    private static final Set<String> LIBRARY = Set.of("java/lang/Integer.bitCount",
        "java/lang/Math.max", "java/lang/String.charAt", "java/lang/String.length",
        "java/lang/System.arraycopy", "java/util/Arrays.fill", "java/lang/Object.<init>",
        "java/lang/ArithmeticException.<init>", "java/lang/IllegalArgumentException.<init>",
        "java/lang/IllegalStateException.<init>", "java/lang/IndexOutOfBoundsException.<init>",
        "java/lang/UnsupportedOperationException.<init>", "java/util/NoSuchElementException.<init>");

    private final Map<String, Set<String>> calls = new TreeMap<>();
    private final Map<String, String> above = new HashMap<>();

    public static void main(String[] args) throws Exception {
        CallGraphTest test = new CallGraphTest();
        File place = new File(SpillPlanner.class.getProtectionDomain().getCodeSource()
            .getLocation().toURI());
        File[] files = place.listFiles((dir, name) -> name.matches("SpillPlanner(\\$.*)?\\.class"));
        Arrays.sort(files);
        for (File file : files) {
            test.take(listing(file));
        }
        test.theLibrary();
        test.theDepth();
        test.theConstructors();
        Check.end("CallGraphTest");
    }

    private static String listing(File file) {
        StringWriter text = new StringWriter();
        PrintWriter out = new PrintWriter(text);
        ToolProvider.findFirst("javap").orElseThrow().run(out, out, "-c", "-p", file.getPath());
        return text.toString();
    }

    private void take(String listing) {
        Matcher head = CLASS.matcher(listing);
        Check.isTrue("a class is listed", head.find());
        String name = head.group(1);
        if (head.group(2) != null) {
            above.put(name, head.group(2));
        }
        Set<String> current = new TreeSet<>();
        for (String line : listing.split("\n")) {
            Matcher method = METHOD.matcher(line);
            Matcher called = CALLED.matcher(line);
            if (method.matches()) {
                String own = method.group(1).equals(name) ? "<init>" : method.group(1);
                current = calls.computeIfAbsent(name + "." + own, key -> new TreeSet<>());
            } else if (called.matches()) {
                String owner = called.group(1) == null ? name : called.group(1);
                current.add(owner + "." + called.group(2));
            }
        }
    }

    private void theLibrary() {
        for (Map.Entry<String, Set<String>> method : calls.entrySet()) {
            for (String called : method.getValue()) {
                Check.isTrue(method.getKey() + " may call " + called,
                    called.startsWith("SpillPlanner") || LIBRARY.contains(called));
            }
        }
    }

    /** The methods that a call can come to: its own, an overriding one, or an inherited one. */
    private List<String> targets(String called) {
        int dot = called.lastIndexOf('.');
        String owner = called.substring(0, dot);
        String name = called.substring(dot);
        List<String> found = new ArrayList<>();
        String upper = owner;
        while (upper != null && !calls.containsKey(upper + name)) {
            upper = above.get(upper);
        }
        if (upper != null) {
            found.add(upper + name);
        }
        for (Map.Entry<String, String> lower : above.entrySet()) {
            if (lower.getValue().equals(owner) && !name.equals(".<init>")
                && calls.containsKey(lower.getKey() + name)) {
                found.add(lower.getKey() + name);
            }
        }
        return found;
    }

    private void theDepth() {
        int deepest = 0;
        for (String method : calls.keySet()) {
            int deep = depth(method, new ArrayList<>());
            deepest = Math.max(deepest, deep);
            Check.isTrue(method + " goes " + deep + " deep", deep <= MOST_DEEP);
        }
        Check.isTrue("the calls were found, " + deepest + " deep", deepest > 4);
    }

    private int depth(String method, List<String> open) {
        if (open.contains(method)) {
            Check.due("recursion", open.toString(), "none");
            return 0;
        }
        open.add(method);
        int deepest = 0;
        for (String called : calls.get(method)) {
            for (String target : targets(called)) {
                deepest = Math.max(deepest, depth(target, open));
            }
        }
        open.remove(open.size() - 1);
        return deepest + 1;
    }

    private void theConstructors() {
        for (Map.Entry<String, Set<String>> method : calls.entrySet()) {
            if (method.getKey().endsWith(".<init>")) {
                for (String called : method.getValue()) {
                    Check.isTrue(method.getKey() + " calls " + called + ", which is one method",
                        targets(called).size() < 2);
                    Check.isTrue(method.getKey() + " throws nothing", !called.contains("Exception"));
                }
            }
        }
    }
}
