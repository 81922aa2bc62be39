import java.io.IOException;
import java.nio.charset.StandardCharsets;
import java.nio.file.Files;
import java.nio.file.Path;
import java.util.List;
import java.util.regex.Matcher;
import java.util.regex.Pattern;

/** Signs that ../shared/LANGUAGE.md was left, as far as they can be seen in the program's text. */
public final class LanguageTest {
    private static final String[] NOT_ALLOWED = {
        "^\\s*import\\b", "^\\s*package\\b", "->", "::", "\\btry\\b", "\\bcatch\\b", "\\bfinally\\b",
        "\\bsynchronized\\b", "\\bassert\\b", "\\bprotected\\b", "\\w+Exact\\(", "\\bSystem\\.(?!arraycopy)",
        "\\bThread\\b", "\\bRandom\\b", "\\bObject\\b", "\\bMath\\.(?!max|min|abs)", "\\bfloat\\b", "@",
        "\\b(Integer|Long)\\.(?!bitCount|max|min|compare)",
        "^\\s*static\\s*\\{",
    };
    private static final Pattern HEAD = Pattern.compile("^    (    )?(\\w[\\w\\[\\] ]*) (\\w+)\\(.*");

    public static void main(String[] args) throws IOException {
        List<String> lines = Files.readAllLines(Path.of("src/main/java/FlakePainter.java"), StandardCharsets.US_ASCII);
        for (int index = 0; index < lines.size(); index++) {
            String code = lines.get(index).replaceAll("'.'|\"[^\"]*\"", "''").replaceAll("//.*|/\\*\\*.*|^\\s*\\*.*", "");
            for (String pattern : NOT_ALLOWED) {
                boolean found = Pattern.compile(pattern).matcher(code).find();
                Check.due("line " + (index + 1) + " has " + pattern, found, false);
            }
        }
        methodsAreShort(lines);
        Check.end();
    }

    private static void methodsAreShort(List<String> lines) {
        int methods = 0;
        for (int index = 0; index < lines.size(); index++) {
            Matcher head = HEAD.matcher(lines.get(index));
            if (head.matches() && !head.group(2).contains("return")) {
                methods++;
                String end = head.group(1) == null ? "    }" : "        }";
                int last = index;
                while (last < lines.size() && !lines.get(last).equals(end)) {
                    last++;
                }
                Check.due("method " + head.group(3) + " is short", last - index < 60, true);
            }
        }
        Check.due("methods are found", methods > 33, true);
    }
}
