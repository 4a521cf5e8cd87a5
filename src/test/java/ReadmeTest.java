import java.io.IOException;
import java.lang.reflect.InvocationTargetException;
import java.lang.reflect.Method;
import java.lang.reflect.Modifier;
import java.nio.file.Files;
import java.nio.file.Path;
import java.util.ArrayList;
import java.util.List;
import java.util.regex.Matcher;
import java.util.regex.Pattern;

/** README.md beside the class: the example's answers, and for each call its arguments and what it throws. */
public final class ReadmeTest {
    private static final Pattern EXAMPLE = Pattern.compile("x\\.(\\w+)\\((.*)\\); +// ([\\w-]+): .+");
    private static final Pattern ENTRY = Pattern.compile("- `(\\w+)\\((.*)\\)`: .+");
    private static final Pattern EXCEPTION = Pattern.compile("`(\\w+Exception)`");

    private ReadmeTest() {
    }

    public static void main(String[] args) throws IOException {
        List<String> lines = Files.readAllLines(Path.of("README.md"));
        example(lines);
        calls(lines);
        Check.end("ReadmeTest");
    }

    private static void example(List<String> lines) {
        int begin = lines.indexOf("Coppinghouse x = new Coppinghouse();");
        Check.due("there is an example", begin >= 0, true);
        Coppinghouse x = new Coppinghouse();
        for (int at = begin + 1; at < lines.size() && !lines.get(at).equals("```"); at++) {
            String line = lines.get(at);
            Matcher parts = EXAMPLE.matcher(line);
            boolean isCall = parts.matches();
            Check.due("is a call with its answer: " + line, isCall, true);
            if (isCall) {
                String due = parts.group(3).endsWith("Exception") ? "throws." + parts.group(3) : parts.group(3);
                Check.due(line, Check.told(() -> answer(x, parts.group(1), parts.group(2))), due);
            }
        }
    }

    private static Object answer(Coppinghouse x, String name, String listed) {
        Method method = named(name);
        String[] texts = split(listed);
        Object[] arguments = new Object[texts.length];
        try {
            for (int at = 0; at < texts.length; at++) {
                arguments[at] = argument(texts[at]);
            }
            return method.invoke(x, arguments);
        } catch (InvocationTargetException thrown) {
            throw (RuntimeException) thrown.getCause();
        } catch (ReflectiveOperationException wrong) {
            throw new IllegalCallerException(wrong);
        }
    }

    private static Object argument(String text) throws ReflectiveOperationException {
        if (text.equals("true") || text.equals("false")) {
            return Boolean.valueOf(text);
        }
        String constant = "Coppinghouse.";
        if (text.startsWith(constant)) {
            return Coppinghouse.class.getField(text.substring(constant.length())).get(null);
        }
        return Integer.valueOf(text);
    }

    private static String[] split(String listed) {
        return listed.isEmpty() ? new String[0] : listed.split(", ");
    }

    private static Method named(String name) {
        for (Method method : publicMethods()) {
            if (method.getName().equals(name)) {
                return method;
            }
        }
        throw new IllegalCallerException("no method " + name);
    }

    private static List<Method> publicMethods() {
        List<Method> found = new ArrayList<>();
        for (Method method : Coppinghouse.class.getDeclaredMethods()) {
            if (Modifier.isPublic(method.getModifiers())) {
                found.add(method);
            }
        }
        return found;
    }

    private static void calls(List<String> lines) {
        for (Method method : publicMethods()) {
            String name = method.getName();
            List<Integer> entries = entriesOf(name, lines);
            Check.due("entries of " + name, entries.size(), 1);
            for (int entry : entries) {
                Matcher head = ENTRY.matcher(lines.get(entry));
                Check.due("arguments of " + name, head.matches() ? split(head.group(2)).length : -1,
                        method.getParameterCount());
                Check.due("exceptions of " + name, exceptionsTold(wholeEntry(entry, lines)), exceptionsOf(method));
            }
        }
    }

    private static List<Integer> entriesOf(String name, List<String> lines) {
        List<Integer> found = new ArrayList<>();
        for (int at = 0; at < lines.size(); at++) {
            Matcher head = ENTRY.matcher(lines.get(at));
            if (head.matches() && head.group(1).equals(name)) {
                found.add(at);
            }
        }
        return found;
    }

    /** The line that it begins with, and the ones behind it that are set in. */
    private static String wholeEntry(int entry, List<String> lines) {
        StringBuilder text = new StringBuilder(lines.get(entry));
        for (int at = entry + 1; at < lines.size() && lines.get(at).startsWith("  "); at++) {
            text.append('\n').append(lines.get(at));
        }
        return text.toString();
    }

    private static List<String> exceptionsTold(String text) {
        List<String> found = new ArrayList<>();
        for (Matcher told = EXCEPTION.matcher(text); told.find();) {
            found.add(told.group(1));
        }
        return found;
    }

    private static List<String> exceptionsOf(Method method) {
        List<String> found = new ArrayList<>();
        for (Class<?> type : method.getExceptionTypes()) {
            found.add(type.getSimpleName());
        }
        return found;
    }
}
