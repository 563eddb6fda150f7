import java.lang.reflect.InvocationTargetException;
import java.lang.reflect.Method;
import java.util.HashMap;
import java.util.Map;

/** Makes calls that are written as in the document: "clear(2) = 1; plan(13, true) = throws ..". */
final class Script {
    private static final Map<String, Method> METHODS = new HashMap<>();

    static {
        for (Method method : SpillPlanner.class.getMethods()) {
            if (method.getDeclaringClass() == SpillPlanner.class) {
                METHODS.put(method.getName(), method);
            }
        }
    }

    private Script() {
    }

    /** Each call of the script gives the answer behind its "=". */
    static void due(SpillPlanner x, String script) {
        for (String row : script.strip().split(";\\s+|;$")) {
            String[] sides = row.strip().split("\\s=\\s");
            if (sides.length != 2) {
                throw new IllegalArgumentException("no call with an answer: " + row);
            }
            String want = sides[1].strip().replaceFirst("^throws ", "throws.");
            Check.due(sides[0], answer(x, sides[0]), want);
        }
    }

    /** A new object for which the script holds. */
    static SpillPlanner made(String script) {
        SpillPlanner x = new SpillPlanner();
        due(x, script);
        return x;
    }

    static String answer(SpillPlanner x, String call) {
        int open = call.indexOf('(');
        String name = call.substring(0, open).strip();
        String inside = call.substring(open + 1, call.lastIndexOf(')')).strip();
        Method method = METHODS.get(name);
        if (method == null) {
            throw new IllegalArgumentException("no such method: " + call);
        }
        String[] words = inside.isEmpty() ? new String[0] : inside.split("\\s*,\\s*");
        return invoke(x, method, arguments(method, words));
    }

    private static Object[] arguments(Method method, String[] words) {
        Class<?>[] types = method.getParameterTypes();
        Object[] values = new Object[words.length];
        for (int i = 0; i < words.length; i++) {
            if (types[i] == int.class) {
                values[i] = numberOf(words[i]);
            } else if (types[i] == boolean.class) {
                values[i] = Boolean.valueOf(words[i]);
            } else {
                values[i] = words[i].charAt(1);
            }
        }
        return values;
    }

    private static int numberOf(String word) {
        return word.equals("MIN") ? Integer.MIN_VALUE
            : word.equals("MAX") ? Integer.MAX_VALUE : Integer.parseInt(word);
    }

    private static String invoke(SpillPlanner x, Method method, Object[] values) {
        try {
            return String.valueOf(method.invoke(x, values));
        } catch (InvocationTargetException e) {
            return "throws." + e.getCause().getClass().getSimpleName();
        } catch (IllegalAccessException e) {
            throw new IllegalStateException(e);
        }
    }
}
