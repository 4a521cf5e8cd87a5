import java.lang.reflect.Constructor;
import java.lang.reflect.Field;
import java.lang.reflect.Method;
import java.lang.reflect.Modifier;
import java.util.Arrays;
import java.util.TreeSet;

/** The public face: the constants, the constructor and the methods of the document, and nothing beside them. */
public final class FaceTest {
    private static final String INDEX = "IndexOutOfBoundsException";
    private static final String ARGUMENT = "IllegalArgumentException";
    private static final String STATE = "IllegalStateException";

    private FaceTest() {
    }

    public static void main(String[] args) {
        constants();
        methods();
        members();
        Check.end("FaceTest");
    }

    private static void constants() {
        Check.due("NONE", Coppinghouse.NONE, -1);
        Check.due("PATH", Coppinghouse.PATH, 0);
        Check.due("RING", Coppinghouse.RING, 1);
        Check.due("STAR", Coppinghouse.STAR, 2);
        Check.due("ALL", Coppinghouse.ALL, 3);
    }

    private static void methods() {
        TreeSet<String> due = new TreeSet<>(Arrays.asList(
                "int rooms(int) " + ARGUMENT,
                "int family(int) " + ARGUMENT + " " + STATE,
                "boolean door(int int boolean) " + INDEX + " " + ARGUMENT + " " + STATE,
                "int shoot(int) " + INDEX + " " + STATE,
                "int back() " + STATE,
                "int doors()",
                "int next(int) " + INDEX,
                "int time(int int int) " + INDEX,
                "int timeAnew(int int int int) " + INDEX + " " + ARGUMENT,
                "int step(int int int) " + INDEX,
                "int away(int int int) " + INDEX,
                "boolean catches(int) " + ARGUMENT,
                "boolean fallsApart()",
                "int rabbit()",
                "int hunt()",
                "int huntAnew(int) " + ARGUMENT,
                "int aim()",
                "int forced(int) " + ARGUMENT,
                "int rounds(int) " + ARGUMENT,
                "int leastBlue()"));
        TreeSet<String> got = new TreeSet<>();
        for (Method method : Coppinghouse.class.getDeclaredMethods()) {
            if (Modifier.isPublic(method.getModifiers())) {
                String head = method.getReturnType() + " " + method.getName() + "(" + names(method.getParameterTypes());
                got.add((head + ") " + names(method.getExceptionTypes())).trim());
            }
        }
        Check.due("the public methods", got, due);
    }

    private static String names(Class<?>[] types) {
        StringBuilder names = new StringBuilder();
        for (Class<?> type : types) {
            names.append(type.getSimpleName()).append(' ');
        }
        return names.toString().trim();
    }

    private static void members() {
        int modifiers = Coppinghouse.class.getModifiers();
        Check.due("the class is public", Modifier.isPublic(modifiers), true);
        Check.due("the class is final", Modifier.isFinal(modifiers), true);
        Constructor<?>[] constructors = Coppinghouse.class.getDeclaredConstructors();
        Check.due("the constructors", Arrays.toString(constructors), "[public Coppinghouse()]");
        TreeSet<String> open = new TreeSet<>();
        for (Field field : Coppinghouse.class.getDeclaredFields()) {
            if (!Modifier.isPrivate(field.getModifiers())) {
                open.add(field.toString());
            }
        }
        Check.due("the constants", open.size(), 5);
        for (Method method : Coppinghouse.class.getDeclaredMethods()) {
            boolean isSeen = Modifier.isPublic(method.getModifiers()) || Modifier.isPrivate(method.getModifiers());
            Check.due(method + " is public or private", isSeen, true);
        }
    }
}
