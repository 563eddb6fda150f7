import java.io.IOException;
import java.nio.file.Files;
import java.nio.file.Path;
import java.util.List;
import java.util.regex.Matcher;
import java.util.regex.Pattern;

/** The rules of LANGUAGE.md that can be seen in the text of the class. */
public final class LanguageTest {
    private static final Path SOURCE = Path.of("src/main/java/SpillPlanner.java");

    private static final String[] FORBIDDEN = {
        "->", "::", "\\bcatch\\b", "\\btry\\b", "\\bfinally\\b", "\\bsynchronized\\b", "\\bassert\\b",
        "\\bdouble\\b", "\\bfloat\\b", "@", "\\bSystem\\.(?!arraycopy)", "Exact\\(", "\\bstatic \\{",
        "\\bpackage\\b", "\"\\s*\\+", "\\+\\s*\"", "\\bwhile \\(true\\)", "\\bRandom\\b", "\\bThread\\b",
        "\\bhashCode\\b", "\\btoString\\b", "getMessage", " / ", " % "
    };

    public static void main(String[] args) throws IOException {
        String source = Files.readString(SOURCE);
        String code = source.replaceAll("(?s)/\\*.*?\\*/", "").replaceAll("//[^\n]*", "");
        for (String pattern : FORBIDDEN) {
            Matcher matcher = Pattern.compile(pattern).matcher(code);
            Check.due("'" + pattern + "' in the class", matcher.find() ? matcher.group() : "", "");
        }
        imports(code);
        whereObjectsAreMade(code);
        signs(source);
        methodLengths(List.of(source.split("\n")));
        Check.end("LanguageTest");
    }

    private static void imports(String code) {
        Matcher matcher = Pattern.compile("import ([\\w.]+);").matcher(code);
        while (matcher.find()) {
            Check.isTrue("import of " + matcher.group(1),
                matcher.group(1).matches("java\\.util\\.(Arrays|NoSuchElementException)"));
        }
    }

    /** Calls make nothing but exceptions, so that any number of calls has room. */
    private static void whereObjectsAreMade(String code) {
        String inConstructor = code.substring(code.indexOf("public SpillPlanner()"),
            code.indexOf("public int clear"));
        String others = code.replace(inConstructor, "");
        for (String line : others.split("\n")) {
            if (line.contains("new ")) {
                boolean isThrow = line.matches("\\s*throw new \\w+Exception\\(\"[^\"]*\"\\);");
                boolean isField = line.matches("        final [\\w\\[\\]]+ \\w+ = new .*;");
                boolean isBlock = line.trim().equals("blocks[b] = new Block();");
                Check.isTrue("'" + line.trim() + "' may make an object",
                    isThrow || isField || isBlock);
            }
        }
    }

    private static void signs(String source) {
        Check.isTrue("plain signs alone", source.chars().allMatch(c -> c == '\n' || c >= 32 && c < 127));
    }

    private static void methodLengths(List<String> lines) {
        int start = 0;
        for (int i = 0; i < lines.size(); i++) {
            String line = lines.get(i);
            if (line.matches("( {4}| {8})\\S.*\\{") && !line.contains(" class ")) {
                start = i;
            }
            if (line.matches("( {4}| {8})\\}") && i - start > 60) {
                boolean isClass = line.startsWith("    }") && !line.startsWith("        ");
                Check.isTrue("line " + (start + 1) + " begins a long method", isClass);
            }
        }
    }
}
