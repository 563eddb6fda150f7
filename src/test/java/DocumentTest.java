import java.io.IOException;
import java.lang.reflect.Method;
import java.lang.reflect.Modifier;
import java.nio.file.Files;
import java.nio.file.Path;
import java.util.Arrays;
import java.util.Set;
import java.util.TreeSet;
import java.util.regex.Matcher;
import java.util.regex.Pattern;
import java.util.stream.Collectors;

/** What can be taken from the document itself: its face, its promises and its examples. */
public final class DocumentTest {
    private static final Pattern SIGNATURE =
        Pattern.compile("(?m)^    public int (\\w+)\\((.*?)\\)(?: throws (.*))?;$");
    private static final Pattern PROMISE =
        Pattern.compile("## Promise (\\d+): .*\n\n`(?:int )?(\\w+)\\((.*?)\\)(?: throws (.*))?`");
    private static final Pattern EXAMPLE = Pattern.compile("(?m)^  [A-Z][^:]*: ((?s:.*?))\\.$");

    public static void main(String[] args) throws IOException {
        String document = Files.readString(Path.of("../shared/DOC.md"));
        face(document);
        promises(document);
        examples(document);
        Check.end("DocumentTest");
    }

    private static void face(String document) {
        Set<String> written = new TreeSet<>();
        Matcher matcher = SIGNATURE.matcher(document);
        while (matcher.find()) {
            written.add(signature(matcher.group(1), matcher.group(2), matcher.group(3)));
        }
        Check.due("the public face", faceOfTheClass().toString(), written.toString());
    }

    private static Set<String> faceOfTheClass() {
        Set<String> found = new TreeSet<>();
        for (Method method : SpillPlanner.class.getDeclaredMethods()) {
            if (Modifier.isPublic(method.getModifiers())) {
                String types = Arrays.stream(method.getParameterTypes()).map(Class::getName)
                    .collect(Collectors.joining(", "));
                String thrown = Arrays.stream(method.getExceptionTypes())
                    .map(Class::getSimpleName).collect(Collectors.joining(", "));
                found.add(method.getName() + "(" + types + ") " + thrown);
            }
        }
        return found;
    }

    private static String signature(String name, String parameters, String exceptions) {
        String types = parameters.replaceAll(" \\w+(?=,|$)", "");
        return name + "(" + types + ") " + (exceptions == null ? "" : exceptions);
    }

    /** Each promise repeats a line of the face; together they repeat all of it. */
    private static void promises(String document) {
        Set<String> written = new TreeSet<>();
        Matcher matcher = PROMISE.matcher(document);
        int number = 0;
        while (matcher.find()) {
            number++;
            Check.due("the number of a promise", matcher.group(1), String.valueOf(number));
            if (!matcher.group(2).equals("SpillPlanner")) {
                written.add(signature(matcher.group(2), matcher.group(3), matcher.group(4)));
            }
        }
        Check.due("promises", number, 29);
        Check.due("the methods that are promised", faceOfTheClass().toString(), written.toString());
    }

    private static void examples(String document) {
        int examples = 0;
        Matcher matcher = EXAMPLE.matcher(document);
        while (matcher.find()) {
            examples++;
            Script.made(matcher.group(1).replaceAll("\\s+", " "));
        }
        Check.due("examples", examples, 3);
    }
}
