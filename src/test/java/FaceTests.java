import java.lang.reflect.Constructor;
import java.lang.reflect.Field;
import java.lang.reflect.Method;
import java.lang.reflect.Modifier;
import java.util.Arrays;
import java.util.Map;
import java.util.Set;
import java.util.TreeSet;
import java.util.function.Consumer;
import java.util.stream.Collectors;

/** The face of the class, and those rules of LANGUAGE.md that the compiled class shows. */
final class FaceTests {
    private static final String INDEX = " throws IndexOutOfBoundsException";
    private static final String ARGUMENT = " throws IllegalArgumentException";
    private static final String STATE = " throws IllegalStateException";
    private static final String INDEX_ARGUMENT = INDEX + ",IllegalArgumentException";

    static void addTo(Map<String, Consumer<Check>> tests) {
        tests.put("the constants", FaceTests::constants);
        tests.put("the face is the document's, no more and no less", FaceTests::face);
        tests.put("rules 1 and 5, what may not be seen or changed", FaceTests::hidden);
        tests.put("rule 11, not too many of anything", FaceTests::sizes);
    }

    private static void constants(Check c) {
        c.is(-1, () -> Heapcarrier.NONE);
        c.is(0, () -> Heapcarrier.LINE);
        c.is(1, () -> Heapcarrier.SQUARE);
        c.is(2, () -> Heapcarrier.RING);
    }

    private static void face(Check c) {
        Set<String> due = new TreeSet<>(Arrays.asList(
                "heap(int,int)" + ARGUMENT + ",IllegalStateException",
                "hole(int,int)" + ARGUMENT + ",IllegalStateException",
                "alter(boolean,int,int,int)" + INDEX_ARGUMENT,
                "measure(int,int)" + ARGUMENT,
                "own(int,int,int)" + INDEX_ARGUMENT,
                "cap(int,int,int)" + INDEX_ARGUMENT,
                "terms(int,int)" + ARGUMENT,
                "unit(int,int)" + INDEX,
                "least()",
                "leastAnew()" + STATE,
                "carried(int,int)" + INDEX,
                "left(boolean,int)" + INDEX,
                "without(int,int)" + INDEX,
                "price(boolean,int)" + INDEX,
                "toll(int,int)" + INDEX,
                "proof()",
                "order()" + STATE,
                "carry(int,int,int)" + INDEX_ARGUMENT,
                "take()",
                "whyNot()",
                "handCost()" + STATE,
                "middle()" + STATE,
                "about(boolean,int,int)" + INDEX_ARGUMENT,
                "count(int)" + ARGUMENT));
        Set<String> got = new TreeSet<>();
        for (Method method : Heapcarrier.class.getDeclaredMethods()) {
            if (!Modifier.isPrivate(method.getModifiers())) {
                c.same(method.getName() + "'s kind", Modifier.toString(method.getModifiers()), "public");
                c.same(method.getName() + "'s answer", method.getReturnType().getName(), "int");
                got.add(written(method));
            }
        }
        c.same("the face", got.toString(), due.toString());
        Constructor<?>[] constructors = Heapcarrier.class.getDeclaredConstructors();
        c.is(1, () -> constructors.length);
        c.same("the constructor", constructors[0].toString(), "public Heapcarrier()");
        c.same("the class", Modifier.toString(Heapcarrier.class.getModifiers()), "public final");
    }

    private static String written(Method method) {
        String throwsClause = Arrays.stream(method.getExceptionTypes())
                .map(Class::getSimpleName).collect(Collectors.joining(","));
        return method.getName() + Arrays.stream(method.getParameterTypes())
                .map(Class::getName).collect(Collectors.joining(",", "(", ")"))
                + (throwsClause.isEmpty() ? "" : " throws " + throwsClause);
    }

    private static void hidden(Check c) {
        Set<String> open = new TreeSet<>();
        for (Field field : Heapcarrier.class.getDeclaredFields()) {
            if (!Modifier.isPrivate(field.getModifiers())) {
                open.add(Modifier.toString(field.getModifiers()) + " " + field.getType() + " " + field.getName());
            }
        }
        c.same("open fields", open.toString(), "[public static final int LINE, public static final int NONE, "
                + "public static final int RING, public static final int SQUARE]");
        Set<String> publicNames = Arrays.stream(Heapcarrier.class.getMethods())
                .filter(method -> method.getDeclaringClass() == Heapcarrier.class)
                .map(Method::getName).collect(Collectors.toSet());
        for (Method method : Heapcarrier.class.getDeclaredMethods()) {
            c.holds(method + " bears no public name",
                    Modifier.isPublic(method.getModifiers()) || !publicNames.contains(method.getName()));
        }
        for (Class<?> inside : Heapcarrier.class.getDeclaredClasses()) {
            c.holds(inside + " is static and not public", Modifier.isStatic(inside.getModifiers())
                    && !Modifier.isPublic(inside.getModifiers()) && !Modifier.isProtected(inside.getModifiers()));
            for (Method method : inside.getDeclaredMethods()) {
                c.holds(method + " bears no public name", !publicNames.contains(method.getName()));
            }
            staticsAreFinal(c, inside);
        }
        staticsAreFinal(c, Heapcarrier.class);
    }

    private static void staticsAreFinal(Check c, Class<?> type) {
        for (Field field : type.getDeclaredFields()) {
            c.holds(field + " is final, if static",
                    !Modifier.isStatic(field.getModifiers()) || Modifier.isFinal(field.getModifiers()));
        }
    }

    private static void sizes(Check c) {
        c.holds("some twelve classes", Heapcarrier.class.getDeclaredClasses().length < 12);
        sizes(c, Heapcarrier.class);
        for (Class<?> inside : Heapcarrier.class.getDeclaredClasses()) {
            sizes(c, inside);
        }
    }

    private static void sizes(Check c, Class<?> type) {
        long fields = Arrays.stream(type.getDeclaredFields())
                .filter(field -> !Modifier.isStatic(field.getModifiers())).count();
        c.holds(type + " has some twenty fields", fields <= 20);
        for (Method method : type.getDeclaredMethods()) {
            c.holds(method + " takes at most seven parameters", method.getParameterCount() <= 7);
        }
    }
}
