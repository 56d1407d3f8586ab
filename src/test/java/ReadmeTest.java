import java.io.ByteArrayOutputStream;
import java.io.IOException;
import java.io.PrintStream;
import java.lang.reflect.Method;
import java.lang.reflect.Modifier;
import java.net.URL;
import java.net.URLClassLoader;
import java.nio.file.Files;
import java.nio.file.Path;
import java.util.Comparator;
import java.util.List;
import java.util.Set;
import java.util.TreeSet;
import java.util.regex.Matcher;
import java.util.regex.Pattern;
import java.util.stream.Stream;
import javax.tools.JavaCompiler;
import javax.tools.ToolProvider;

/** What README.md shows is so: its example, its rows of calls and tests. Run from the project's folder. */
public final class ReadmeTest {
    private static final Check CHECK = new Check("ReadmeTest");
    private static final Pattern CALL = Pattern.compile("(?m)^\\| `([a-z]+)\\(([a-z, ]*)\\)` \\|");
    private static final Pattern TEST = Pattern.compile("`([A-Za-z]+Test)`");
    private static final Pattern FOLDER_OR_FILE = Pattern.compile("(?m)^- `([^`]+)`:");

    public static void main(String[] args) throws Exception {
        String page = Files.readString(Path.of("README.md"));
        example(block(page, "java"), block(page, "text"));
        calls(page);
        tests(page);
        places(page);
        CHECK.end();
    }

    private static String block(String page, String kind) {
        Matcher found = Pattern.compile("(?s)\n```" + kind + "\n(.*?)```\n").matcher(page);
        boolean there = found.find();
        CHECK.due("a block of " + kind, there, true);
        return there ? found.group(1) : "";
    }

    private static void example(String code, String printed) throws Exception {
        Path folder = Files.createTempDirectory("readme");
        try {
            Path file = Files.writeString(folder.resolve("Example.java"), code);
            JavaCompiler javac = ToolProvider.getSystemJavaCompiler();
            CHECK.due("there is a compiler", javac != null, true);
            int fault = javac.run(null, null, null, "-Xlint:all", "-Werror", "-d", folder.toString(),
                "-cp", System.getProperty("java.class.path"), file.toString());
            CHECK.due("the example compiles", fault, 0);
            if (fault == 0) {
                linesAlike(outputOf(folder).split("\n"), printed.split("\n"));
            }
        } finally {
            remove(folder);
        }
    }

    private static String outputOf(Path folder) throws Exception {
        PrintStream before = System.out;
        ByteArrayOutputStream out = new ByteArrayOutputStream();
        try (URLClassLoader loader = new URLClassLoader(new URL[] {folder.toUri().toURL()})) {
            Method main = loader.loadClass("Example").getMethod("main", String[].class);
            System.setOut(new PrintStream(out, true));
            main.invoke(null, (Object) new String[0]);
        } finally {
            System.setOut(before);
        }
        return out.toString().replace("\r", "");
    }

    private static void linesAlike(String[] got, String[] told) {
        CHECK.due("lines that the example prints", got.length, told.length);
        for (int i = 0; i < Math.min(got.length, told.length); i++) {
            CHECK.due("the example prints <" + got[i] + ">, not <" + told[i] + ">", got[i].equals(told[i]), true);
        }
    }

    private static void remove(Path folder) throws IOException {
        try (Stream<Path> all = Files.walk(folder)) {
            for (Path one : all.sorted(Comparator.reverseOrder()).toList()) {
                Files.delete(one);
            }
        }
    }

    private static void calls(String page) {
        Set<String> due = new TreeSet<>();
        for (Method m : SwollenHouse.class.getDeclaredMethods()) {
            if (Modifier.isPublic(m.getModifiers())) {
                due.add(m.getName() + " of " + m.getParameterCount());
            }
        }
        Set<String> shown = new TreeSet<>();
        Matcher row = CALL.matcher(page);
        while (row.find()) {
            int parameters = row.group(2).isEmpty() ? 0 : row.group(2).split(", ").length;
            CHECK.due("a row of its own: " + row.group(), shown.add(row.group(1) + " of " + parameters), true);
        }
        alike("calls", shown, due);
    }

    private static void tests(String page) throws IOException {
        Set<String> due = new TreeSet<>();
        try (Stream<Path> files = Files.list(Path.of("src/test/java"))) {
            List<String> names = files.map(f -> f.getFileName().toString()).toList();
            for (String name : names) {
                if (name.endsWith("Test.java")) {
                    due.add(name.substring(0, name.length() - ".java".length()));
                }
            }
        }
        Set<String> shown = new TreeSet<>();
        Matcher named = TEST.matcher(page);
        while (named.find()) {
            shown.add(named.group(1));
        }
        alike("tests", shown, due);
    }

    private static void alike(String what, Set<String> shown, Set<String> due) {
        for (String name : due) {
            CHECK.due(what + ": shown is " + name, shown.contains(name), true);
        }
        for (String name : shown) {
            CHECK.due(what + ": there is " + name, due.contains(name), true);
        }
    }

    private static void places(String page) {
        Matcher place = FOLDER_OR_FILE.matcher(page);
        int places = 0;
        while (place.find()) {
            places++;
            // What lies in ../shared is not the project's to hold.
            boolean there = place.group(1).startsWith("../") || Files.exists(Path.of(place.group(1)));
            CHECK.due("there is " + place.group(1), there, true);
        }
        CHECK.due("places shown", places > 0, true);
    }
}
