import java.io.IOException;
import java.lang.reflect.Field;
import java.lang.reflect.Modifier;
import java.nio.file.Files;
import java.nio.file.Path;
import java.util.ArrayList;
import java.util.List;
import java.util.Set;
import java.util.regex.Matcher;
import java.util.regex.Pattern;

/** What can be seen of LANGUAGE.md in the text of the source, its comments left out, and in the classes that it makes. */
public final class LanguageTest {
    private static final Path SOURCE = Path.of("src/main/java/EstateDesk.java");
    private static final String[] RULED_OUT = {
        "->", "::", "\\b(synchronized|assert|finally|try|catch|package|volatile|native|transient|goto|protected|var)\\b",
        "static\\s*\\{", "\\w+Exact\\(", "\\b(Thread|Random|Object|Runtime|Scanner|Optional|Stream|Map|Set|Double|Float)\\b",
        "\\.(hashCode|equals|toString|getMessage)\\(", "import (?!java\\.util\\.Arrays;)", "\\b(double|float)\\b",
        "\\bthrow (?!new Illegal(State|Argument)Exception\\(\\);)",
        "static (?!final\\b)(int|long|boolean|char|String)(\\[\\])* \\w+( =|;)", "[^\\x00-\\xff]",
        "\\bSystem\\b", "\\bMath\\.(?!(min|max)\\()", "\\bArrays\\.(?!fill\\()", "\\b(while|do)\\b",
    };
    private static final Set<String> CONSTANT_TYPES = Set.of("int", "long", "boolean", "char", "String");
    private static final int MOST_CLASSES = 12;
    private static final int MOST_LINES = 60;
    private static final int MOST_PARAMETERS = 7;
    private static final int MOST_FIELDS = 20;

    public static void main(String[] args) throws IOException {
        String code = Files.readString(SOURCE).replaceAll("/\\*(?s:.*?)\\*/", "").replaceAll("//.*", "");
        for (String pattern : RULED_OUT) {
            Matcher matcher = Pattern.compile(pattern).matcher(code);
            Check.due("ruled out: " + pattern, matcher.find() ? matcher.group() : "", "");
        }
        methodsAreShort(code.lines().toList());
        nothingIsMadeByACall(code.lines().toList());
        loopsCountAgainstABound(code.lines().toList());
        classesAreFewAndSmall();
        Check.end();
    }

    private static void atMost(String what, int got, int most) {
        Check.due(what, Math.max(most, got), most);
    }

    /** Rule 11. */
    private static void methodsAreShort(List<String> lines) {
        Pattern head = Pattern.compile("^( +)(?!class)[\\w\\[\\] ]+\\(([^)]*)\\)[\\w, ]*\\{$");
        for (int first = 0; first < lines.size(); first++) {
            Matcher matcher = head.matcher(lines.get(first));
            if (matcher.find()) {
                int last = first;
                while (!lines.get(last).equals(matcher.group(1) + "}")) {
                    last++;
                }
                atMost("lines of " + lines.get(first), last - first, MOST_LINES);
                atMost("parameters of " + lines.get(first), matcher.group(2).split(",").length, MOST_PARAMETERS);
            }
        }
    }

    /** Rule 12: rows are made with the object; a call makes an exception at most. */
    private static void nothingIsMadeByACall(List<String> lines) {
        Pattern field = Pattern.compile("^ +private final [\\w\\[\\]]+ \\w+ = new [\\w\\[\\]+ ()]+;$");
        for (String line : lines) {
            boolean isFine = field.matcher(line).matches() || line.contains("throw new Illegal")
                    || line.equals("        settling = new Settling(persons, assets, clauses, debts);");
            if (line.contains("new ")) {
                Check.due("made outside a constructor", isFine ? "" : line, "");
            }
        }
    }

    /** Rule 9. */
    private static void loopsCountAgainstABound(List<String> lines) {
        Pattern counter = Pattern.compile("^ +for \\((int (\\w+) = \\d; \\2 <=? .+; \\2\\+\\+|long unit = .+; unit > 0; unit /= BASE)\\) \\{$");
        for (String line : lines) {
            if (line.contains("for (")) {
                Check.due("loop without a counter", counter.matcher(line).matches() ? "" : line, "");
            }
        }
    }

    /** Rules 2, 5 and 11. */
    private static void classesAreFewAndSmall() {
        List<Class<?>> classes = new ArrayList<>(List.of(EstateDesk.class.getDeclaredClasses()));
        classes.add(EstateDesk.class);
        atMost("classes", classes.size(), MOST_CLASSES);
        for (Class<?> each : classes) {
            int fields = 0;
            Check.due("classes inside " + each, each.getDeclaredClasses().length, each == EstateDesk.class ? classes.size() - 1 : 0);
            for (Field field : each.getDeclaredFields()) {
                if (Modifier.isStatic(field.getModifiers())) {
                    Check.due("final " + field, Modifier.isFinal(field.getModifiers()) ? 1 : 0, 1);
                    Check.due("a constant " + field, CONSTANT_TYPES.contains(field.getType().getSimpleName()) ? 1 : 0, 1);
                } else {
                    fields++;
                }
            }
            atMost("fields of " + each, fields, MOST_FIELDS);
        }
    }
}
