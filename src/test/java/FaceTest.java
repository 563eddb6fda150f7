import java.lang.reflect.Constructor;
import java.lang.reflect.Field;
import java.lang.reflect.Method;
import java.lang.reflect.Modifier;
import java.util.Arrays;
import java.util.Set;
import java.util.TreeSet;
import java.util.stream.Collectors;

/** The public face is that of the document, and nothing else can be seen from outside. */
public final class FaceTest {
    private static final String FACE = """
        append(int,int,int,int,int) IndexOutOfBoundsException IllegalArgumentException IllegalStateException
        block(int,int) IndexOutOfBoundsException IllegalArgumentException
        clear(int) IllegalArgumentException
        conflicts(int) IllegalArgumentException
        cost(int,boolean) IllegalArgumentException UnsupportedOperationException
        enough()
        executed(int) IllegalArgumentException
        feed(char) IllegalStateException
        home(int,int) IllegalArgumentException IllegalStateException
        instruction(int,int,int) IndexOutOfBoundsException IllegalArgumentException
        live(int,int) IndexOutOfBoundsException
        loop(int,int) IndexOutOfBoundsException IllegalArgumentException
        loops()
        plan(int,boolean) IllegalArgumentException
        planned(int) IllegalArgumentException IllegalStateException
        pressure()
        profile()
        promoted(int,int) IllegalArgumentException IndexOutOfBoundsException IllegalStateException NoSuchElementException
        read(int) IndexOutOfBoundsException
        removeLast(int) IndexOutOfBoundsException NoSuchElementException
        restoreSnapshot() IllegalStateException
        run(int) IllegalArgumentException ArithmeticException
        runPlanned(int) IllegalArgumentException IllegalStateException ArithmeticException
        saveSnapshot()
        setEnd(int,int,int,int,int) IndexOutOfBoundsException IllegalArgumentException
        setFrequency(int,int) IndexOutOfBoundsException IllegalArgumentException
        setInitial(int,int) IllegalArgumentException
        visits(int) IndexOutOfBoundsException
        """;

    public static void main(String[] args) {
        theClass();
        theMethods();
        theRest();
        Check.end("FaceTest");
    }

    private static void theClass() {
        int modifiers = SpillPlanner.class.getModifiers();
        Check.isTrue("the class is public", Modifier.isPublic(modifiers));
        Check.isTrue("the class is final", Modifier.isFinal(modifiers));
        Constructor<?>[] constructors = SpillPlanner.class.getDeclaredConstructors();
        Check.due("constructors", constructors.length, 1);
        Check.isTrue("the constructor is public",
            Modifier.isPublic(constructors[0].getModifiers()));
        Check.due("its parameters", constructors[0].getParameterCount(), 0);
    }

    private static void theMethods() {
        Set<String> found = new TreeSet<>();
        Set<String> hidden = new TreeSet<>();
        Set<String> open = new TreeSet<>();
        for (Method method : SpillPlanner.class.getDeclaredMethods()) {
            if (method.isSynthetic()) {
                continue;
            }
            if (Modifier.isPrivate(method.getModifiers())) {
                hidden.add(method.getName());
            } else {
                open.add(method.getName());
                found.add(lineOf(method));
                Check.isTrue(method + " is public", Modifier.isPublic(method.getModifiers()));
                Check.due(method + " returns", method.getReturnType().getName(), "int");
            }
        }
        Check.due("the face", String.join("\n", found), String.join("\n", FACE.trim().split("\n")));
        hidden.retainAll(open);
        Check.due("private methods with the name of a public one", hidden.toString(), "[]");
    }

    private static String lineOf(Method method) {
        String line = method.getName() + Arrays.stream(method.getParameterTypes())
            .map(Class::getName).collect(Collectors.joining(",", "(", ")"));
        for (Class<?> kind : method.getExceptionTypes()) {
            line += " " + kind.getSimpleName();
        }
        return line;
    }

    private static void theRest() {
        for (Field field : SpillPlanner.class.getDeclaredFields()) {
            Check.isTrue(field + " is private", Modifier.isPrivate(field.getModifiers()));
        }
        Class<?>[] inside = SpillPlanner.class.getDeclaredClasses();
        Check.isTrue("at most twelve classes", inside.length < 12);
        for (Class<?> nested : inside) {
            int modifiers = nested.getModifiers();
            Check.isTrue(nested + " is static", Modifier.isStatic(modifiers));
            Check.isTrue(nested + " is hidden",
                !Modifier.isPublic(modifiers) && !Modifier.isProtected(modifiers));
            long fields = Arrays.stream(nested.getDeclaredFields())
                .filter(field -> !Modifier.isStatic(field.getModifiers())).count();
            Check.isTrue(nested + " has at most twenty fields", fields <= 20);
        }
    }
}
