import java.nio.file.Files;
import java.nio.file.Path;
import java.util.List;
import java.util.regex.Pattern;

/** What can be seen of LANGUAGE.md in the program's text; run from the project's folder, as .ci/run does. */
public final class LanguageTest {
    private static final Check CHECK = new Check("LanguageTest");
    private static final String[] NEVER = {"\\btry\\b", "\\bcatch\\b", "\\bfinally\\b", "\\bassert\\b", "\\bsynchronized\\b",
        "->", "::", "\\bdouble\\b", "\\bfloat\\b", "\\bNaN\\b", "\\bpackage\\b", "Exact\\(", "\\bThread\\b", "nanoTime",
        "currentTimeMillis", "\\bRandom\\b", "System\\.(?!arraycopy)", "\\bprotected\\b", "toString", "hashCode", "static \\{"};

    public static void main(String[] args) throws Exception {
        List<String> lines = Files.readAllLines(Path.of("src/main/java/SwollenHouse.java"));
        imports(lines);
        for (String never : NEVER) {
            Pattern pattern = Pattern.compile(never);
            for (int i = 0; i < lines.size(); i++) {
                boolean found = pattern.matcher(withoutComment(lines.get(i))).find();
                CHECK.due(never + " in line " + (i + 1), found, false);
            }
        }
        for (String line : lines) {
            CHECK.due("signs of " + line, line.chars().allMatch(c -> c >= 32 && c < 127), true);
            CHECK.due("length of " + line, line.length() <= 120, true);
        }
        methodLengths(lines);
        CHECK.end();
    }

    private static String withoutComment(String line) {
        String code = line.trim();
        if (code.startsWith("*") || code.startsWith("/**")) {
            return "";
        }
        int at = code.indexOf("//");
        return at < 0 ? code : code.substring(0, at);
    }

    private static void imports(List<String> lines) {
        for (String line : lines) {
            if (line.startsWith("import")) {
                CHECK.due(line, line.equals("import java.util.NoSuchElementException;"), true);
            }
        }
    }

    /** A method starts with a line that ends in ") {" or throws, and ends with a brace as deep as its start. */
    private static void methodLengths(List<String> lines) {
        Pattern start = Pattern.compile("^(    |        )[a-zA-Z].*\\(.*\\).* \\{$");
        for (int i = 0; i < lines.size(); i++) {
            String line = lines.get(i);
            boolean starts = start.matcher(line).matches() && !line.trim().matches("(if|for|while|switch|\\} else).*");
            if (starts) {
                String end = line.substring(0, line.length() - line.stripLeading().length()) + "}";
                int last = i;
                while (last < lines.size() && !lines.get(last).equals(end)) {
                    last++;
                }
                CHECK.due("sixty lines at most: " + line.trim(), last - i <= 60, true);
            }
        }
    }
}
