import java.io.IOException;
import java.lang.reflect.InvocationTargetException;
import java.lang.reflect.Method;
import java.lang.reflect.Modifier;
import java.nio.file.DirectoryStream;
import java.nio.file.Files;
import java.nio.file.Path;
import java.util.ArrayList;
import java.util.List;
import java.util.Set;
import java.util.TreeSet;
import java.util.regex.Matcher;
import java.util.regex.Pattern;

/** The calls that README.md shows, in its order, answer as it says; and it leaves out no call and no test. */
public final class ReadmeTest {
    private static final Path README = Path.of("README.md");
    private static final Path TESTS = Path.of("src/test/java");
    private static final String NEW_DESK = "EstateDesk desk = new EstateDesk();";
    private static final Pattern BLOCK = Pattern.compile("(?ms)^```java\\n(.*?)^```$");
    private static final Pattern CALL = Pattern.compile("desk\\.(\\w+)\\(([^)]*)\\); +// (.+)");
    private static final Pattern ANSWER = Pattern.compile("(-?\\d+|NONE|throws (\\w+))(:.*)?");
    private static final String NO_ANSWER = "nothing";
    private static final String NOT_TOLD = "an answer that README.md does not tell";

    private EstateDesk desk;
    private final Set<String> shown = new TreeSet<>();

    public static void main(String[] args) throws IOException, IllegalAccessException {
        String text = Files.readString(README);
        ReadmeTest test = new ReadmeTest();
        test.makeCallsOf(text);
        leavesOutNoCall(text, test.shown);
        leavesOutNoTest(text);
        Check.end();
    }

    private void makeCallsOf(String text) throws IllegalAccessException {
        Matcher block = BLOCK.matcher(text);
        while (block.find()) {
            for (String line : block.group(1).lines().toList()) {
                if (line.equals(NEW_DESK)) {
                    desk = new EstateDesk();
                } else {
                    makeCallOf(line);
                }
            }
        }
    }

    private void makeCallOf(String line) throws IllegalAccessException {
        Matcher call = CALL.matcher(line);
        if (!call.matches()) {
            Check.due("README.md: " + line, "is not read", "is a call and what it answers");
            return;
        }
        Method method = methodOf(call.group(1));
        shown.add(method.getName());
        Check.due("README.md: " + line, outcome(method, call.group(2)), told(method, call.group(3)));
    }

    private static Method methodOf(String name) {
        for (Method method : EstateDesk.class.getDeclaredMethods()) {
            if (method.getName().equals(name)) {
                return method;
            }
        }
        throw new IllegalStateException("README.md shows " + name + ", which is none of the face");
    }

    /** Every answer must be told; of a call without one the comment says what it is for. */
    private static String told(Method method, String comment) {
        Matcher answer = ANSWER.matcher(comment);
        if (!answer.matches()) {
            return method.getReturnType() == void.class ? NO_ANSWER : NOT_TOLD;
        }
        if (answer.group(2) != null) {
            return answer.group(2);
        }
        return answer.group(1).equals("NONE") ? String.valueOf(EstateDesk.NONE) : answer.group(1);
    }

    private String outcome(Method method, String arguments) throws IllegalAccessException {
        try {
            Object answer = method.invoke(desk, values(method.getParameterTypes(), arguments));
            return answer == null ? NO_ANSWER : answer.toString();
        } catch (InvocationTargetException e) {
            return e.getCause().getClass().getSimpleName();
        }
    }

    private static Object[] values(Class<?>[] types, String arguments) {
        String[] words = arguments.isEmpty() ? new String[0] : arguments.split(", ");
        List<Object> values = new ArrayList<>();
        for (int i = 0; i < words.length; i++) {
            values.add(value(types[i], words[i]));
        }
        return values.toArray();
    }

    private static Object value(Class<?> type, String word) {
        if (type == boolean.class) {
            return Boolean.valueOf(word);
        }
        if (type == long.class) {
            return Long.valueOf(word);
        }
        return Integer.valueOf(word);
    }

    private static void leavesOutNoCall(String text, Set<String> shown) {
        Set<String> face = new TreeSet<>();
        Set<String> listed = new TreeSet<>();
        for (Method method : EstateDesk.class.getDeclaredMethods()) {
            if (Modifier.isPublic(method.getModifiers())) {
                face.add(method.getName());
            }
        }
        Matcher row = Pattern.compile("(?m)^\\| `(\\w+)\\(").matcher(text);
        while (row.find()) {
            listed.add(row.group(1));
        }
        Check.due("calls that README.md shows", shown.toString(), face.toString());
        Check.due("calls that README.md lists", listed.toString(), face.toString());
    }

    private static void leavesOutNoTest(String text) throws IOException {
        Set<String> there = new TreeSet<>();
        try (DirectoryStream<Path> files = Files.newDirectoryStream(TESTS, "*Test.java")) {
            for (Path file : files) {
                there.add(file.getFileName().toString().replace(".java", ""));
            }
        }
        Set<String> named = new TreeSet<>();
        Matcher item = Pattern.compile("(?m)^- `(\\w+Test)`").matcher(text);
        while (item.find()) {
            named.add(item.group(1));
        }
        Check.due("tests that README.md names", named.toString(), there.toString());
    }
}
