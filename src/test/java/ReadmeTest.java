import java.io.IOException;
import java.lang.reflect.Method;
import java.lang.reflect.Modifier;
import java.nio.file.Files;
import java.nio.file.Path;
import java.util.ArrayList;
import java.util.Arrays;
import java.util.List;
import java.util.Set;
import java.util.TreeMap;
import java.util.TreeSet;
import java.util.regex.Matcher;
import java.util.regex.Pattern;
import java.util.stream.Collectors;
import java.util.stream.Stream;

/** What README.md says of the calls and of the tests is true of the project. */
public final class ReadmeTest {
    private static final Path TESTS = Path.of("src/test/java");
    private static final Pattern CALL =
        Pattern.compile("planner\\.(\\w+\\(.*\\)); +// (throws \\w+|-?\\d+)\\b.*");
    private static final Pattern TEXT =
        Pattern.compile("for \\(char c : \"(.*)\"\\.toCharArray\\(\\)\\) planner\\.feed\\(c\\);");
    private static final Pattern ROW =
        Pattern.compile("\\| `(\\w+)\\((.*?)\\)` \\| .+ \\| .+ \\|(.*)\\|");

    public static void main(String[] args) throws IOException {
        List<String> lines = Files.readAllLines(Path.of("README.md"));
        examples(lines);
        textsOfTheTables(lines);
        tableOfCalls(lines);
        callsThatDiscard(String.join("\n", lines));
        testsAndHelpers(String.join("\n", lines));
        files(String.join("\n", lines));
        Check.end("ReadmeTest");
    }

    private static void examples(List<String> lines) {
        SpillPlanner planner = null;
        boolean isCode = false;
        int examples = 0;
        for (String line : lines) {
            if (line.startsWith("```")) {
                isCode = line.equals("```java");
            } else if (isCode && line.equals("SpillPlanner planner = new SpillPlanner();")) {
                planner = new SpillPlanner();
                examples++;
            } else if (isCode) {
                step(planner, line);
            }
        }
        Check.due("examples", examples, 2);
    }

    private static void step(SpillPlanner planner, String line) {
        Matcher text = TEXT.matcher(line);
        Matcher call = CALL.matcher(line);
        if (text.matches()) {
            Texts.feed(planner, text.group(1));
        } else if (call.matches()) {
            Script.due(planner, call.group(1) + " = " + call.group(2));
        } else {
            Check.due("a line of an example", line, "a call with its answer");
        }
    }

    /** The texts beside the kinds make instructions and ends of these kinds. */
    private static void textsOfTheTables(List<String> lines) {
        int texts = 0;
        for (String line : lines) {
            Matcher row = Pattern.compile("\\| ([0-4, ]+) \\| .* \\| (`.*`) \\|").matcher(line);
            if (row.matches()) {
                String[] kinds = row.group(1).split(", ");
                String[] written = row.group(2).replaceAll("^`|`$", "").split("` `");
                Check.due("texts of " + line, written.length, kinds.length);
                for (int i = 0; i < kinds.length; i++) {
                    textOfKind(written[i], Integer.parseInt(kinds[i]));
                    texts++;
                }
            }
        }
        Check.due("texts of the tables", texts, 8);
    }

    private static void textOfKind(String text, int kind) {
        SpillPlanner x = new SpillPlanner();
        x.clear(3);
        boolean isInstruction = text.endsWith(";");
        Texts.feed(x, isInstruction ? text + "stop a" : text);
        Check.due("instructions of " + text, x.read(0), isInstruction ? 1 : 0);
        Check.due("kind of " + text, isInstruction ? x.instruction(0, 0, 0) : x.block(0, 1), kind);
    }

    private static void tableOfCalls(List<String> lines) {
        TreeMap<String, Method> face = new TreeMap<>();
        for (Method method : SpillPlanner.class.getDeclaredMethods()) {
            if (Modifier.isPublic(method.getModifiers())) {
                face.put(method.getName(), method);
            }
        }
        Set<String> named = new TreeSet<>();
        for (String line : lines) {
            Matcher row = ROW.matcher(line);
            if (row.matches()) {
                Check.isTrue("one row for " + row.group(1), named.add(row.group(1)));
                Method method = face.get(row.group(1));
                Check.isTrue("there is a call " + row.group(1), method != null);
                if (method != null) {
                    rowOf(method, row.group(2), row.group(3).strip());
                }
            }
        }
        Check.due("the calls of the table", named.toString(), face.keySet().toString());
    }

    private static void rowOf(Method method, String parameters, String exceptions) {
        int count = parameters.isEmpty() ? 0 : parameters.split(", ").length;
        Check.due("parameters of " + method.getName(), count, method.getParameterCount());
        String thrown = Arrays.stream(method.getExceptionTypes())
            .map(kind -> kind.getSimpleName().replaceFirst("Exception$", ""))
            .collect(Collectors.joining(", "));
        Check.due("exceptions of " + method.getName(), exceptions, thrown);
    }

    /** Each call that is said to discard the plan does so, and no other. */
    private static void callsThatDiscard(String readme) {
        Matcher said = Pattern.compile("(?s)The plan is discarded by (.*?), also if").matcher(readme);
        Check.isTrue("what discards the plan is said", said.find());
        Set<String> named = new TreeSet<>(quoted(said.group(1)));
        Set<String> found = new TreeSet<>();
        String[] calls = {"clear(1)", "append(0, 0, 0, 0, 0)", "removeLast(0)",
            "setEnd(0, 2, 0, 0, 0)", "setFrequency(0, 1)", "setInitial(0, 0)",
            "instruction(0, 0, 0)", "block(0, 0)", "live(0, 0)", "conflicts(0)", "pressure()",
            "loops()", "cost(0, false)", "plan(1, true)", "home(0, 0)", "planned(0)", "enough()",
            "run(9)", "runPlanned(9)", "executed(0)", "visits(0)", "profile()", "feed('a')",
            "read(0)", "saveSnapshot()", "restoreSnapshot()"};
        for (String call : calls) {
            SpillPlanner x = new SpillPlanner();
            x.append(0, 0, 0, 5, 0);
            x.saveSnapshot();
            Texts.feed(x, "stop a");
            x.plan(1, false);
            String answer = Script.answer(x, call);
            Check.isTrue(call + " does not throw", !answer.startsWith("throws"));
            if (Script.answer(x, "planned(0)").startsWith("throws")) {
                found.add(call.substring(0, call.indexOf('(')));
            }
        }
        Check.due("the calls that discard the plan", named.toString(), found.toString());
    }

    private static void testsAndHelpers(String readme) throws IOException {
        Set<String> named = new TreeSet<>();
        for (String line : readme.substring(readme.indexOf("## Tests")).split("\n")) {
            for (String name : quoted(line)) {
                if (name.matches("[A-Z]\\w+")) {
                    named.add(name);
                }
            }
        }
        Set<String> there = new TreeSet<>();
        try (Stream<Path> files = Files.list(TESTS)) {
            files.forEach(file -> there.add(file.getFileName().toString().replace(".java", "")));
        }
        Check.due("the tests and their helpers", named.toString(), there.toString());
    }

    private static void files(String readme) {
        for (String name : quoted(readme.replaceAll("(?s)```.*?```", ""))) {
            if (name.matches("[\\w./]+/[\\w./]+")) {
                Check.isTrue(name + " is there", Files.exists(Path.of(name)));
            }
        }
        Check.isTrue(".ci/run can be executed", Files.isExecutable(Path.of(".ci/run")));
    }

    private static List<String> quoted(String text) {
        List<String> names = new ArrayList<>();
        Matcher matcher = Pattern.compile("`([^`\n]+)`").matcher(text);
        while (matcher.find()) {
            names.add(matcher.group(1));
        }
        return names;
    }
}
