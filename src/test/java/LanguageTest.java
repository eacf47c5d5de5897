import java.io.IOException;
import java.nio.file.Files;
import java.nio.file.Path;
import java.util.List;
import java.util.regex.Matcher;
import java.util.regex.Pattern;

/** What can be seen of LANGUAGE.md in the text of the source; the comments are left out. */
public final class LanguageTest {
    private static final Path SOURCE = Path.of("src/main/java/EstateDesk.java");
    private static final String[] RULED_OUT = {
        "->", "::", "\\b(synchronized|assert|finally|try|package|volatile|native|transient|goto)\\b", "static\\s*\\{", "\\w+Exact\\(",
        "\\b(System|Thread|Random|Object|Runtime|Scanner|Optional|Stream|Map|Set)\\b", "\\.(hashCode|equals|toString|getMessage)\\(",
        "import (?!java\\.util\\.Arrays;)", "\\b(double|float)\\b", "\\bthrow (?!new Illegal(State|Argument)Exception\\(\\);)",
        "static (?!final\\b)(int|long|boolean|char|String)(\\[\\])* \\w+( =|;)", "[^\\x00-\\xff]",
    };

    public static void main(String[] args) throws IOException {
        String code = Files.readString(SOURCE).replaceAll("/\\*(?s:.*?)\\*/", "").replaceAll("//.*", "");
        for (String pattern : RULED_OUT) {
            Matcher matcher = Pattern.compile(pattern).matcher(code);
            Check.due("ruled out: " + pattern, matcher.find() ? matcher.group() : "", "");
        }
        Check.due("twelve classes at most", Math.max(12, count(code, "\\b(class|record|enum|interface) \\w+")), 12);
        methodsAreShort(code.lines().toList());
        Check.end();
    }

    private static void methodsAreShort(List<String> lines) {
        Pattern head = Pattern.compile("^( +)(?!class)[\\w\\[\\] ]+\\(([^)]*)\\)[\\w, ]*\\{$");
        for (int first = 0; first < lines.size(); first++) {
            Matcher matcher = head.matcher(lines.get(first));
            if (matcher.find()) {
                int last = first;
                while (!lines.get(last).equals(matcher.group(1) + "}")) {
                    last++;
                }
                Check.due("sixty lines at most: " + lines.get(first), Math.max(60, last - first), 60);
                Check.due("seven parameters at most: " + lines.get(first), Math.max(7, matcher.group(2).split(",").length), 7);
            }
        }
    }

    private static int count(String code, String pattern) {
        return (int) Pattern.compile(pattern).matcher(code).results().count();
    }
}
