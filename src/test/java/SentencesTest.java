import java.io.IOException;
import java.nio.file.Files;
import java.nio.file.Path;
import java.util.ArrayList;
import java.util.List;
import java.util.regex.Matcher;
import java.util.regex.Pattern;
import java.util.stream.Stream;

/**
 * Holds the tests against ../shared/DOC.md: each sentence that a test says by Check.says stands in the document,
 * and each word of its Terms and promises is said by a test. Run from the project's folder, as .ci/run does.
 */
public final class SentencesTest {
    private static final Check CHECK = new Check("SentencesTest");
    private static final Pattern SAID = Pattern.compile("says\\(((?:\\s*\"(?:[^\"\\\\]|\\\\.)*\"\\s*\\+?)+)\\)");
    private static final Pattern LITERAL = Pattern.compile("\"((?:[^\"\\\\]|\\\\.)*)\"");

    public static void main(String[] args) throws IOException {
        Path told = Path.of("../shared/DOC.md");
        if (!Files.exists(told)) {
            System.out.println("SentencesTest: no " + told + " here to hold the tests against");
            return;
        }
        String document = promised(Files.readString(told));
        boolean[] covered = new boolean[document.length()];
        for (String sentence : said()) {
            CHECK.due("in the document: <" + sentence + ">", cover(document, sentence, covered), true);
        }
        for (String left : left(document, covered)) {
            CHECK.due("said by a test: <" + left + ">", false, true);
        }
        CHECK.end();
    }

    /** What the document promises, without headings, fences and signatures, one blank between words. */
    private static String promised(String text) {
        int from = text.indexOf("An object is used");
        int face = text.indexOf("## The public face");
        int terms = text.indexOf("## Terms");
        int to = text.indexOf("## Not promised");
        CHECK.due("the document's parts", from >= 0 && face > from && terms > face && to > terms, true);
        StringBuilder kept = new StringBuilder(text.substring(from, face));
        for (String line : text.substring(terms, to).split("\n")) {
            if (!line.startsWith("#") && !line.startsWith("```")) {
                kept.append(' ').append(line.replaceFirst("^`[^`]*`: ", ""));
            }
        }
        return plain(kept.toString().replaceAll("==== \\d\\.", "").replace("what later calls answer is free", ""));
    }

    private static String plain(String text) {
        return text.replaceAll("\\s+", " ").trim();
    }

    private static List<String> said() throws IOException {
        List<String> sentences = new ArrayList<>();
        try (Stream<Path> files = Files.list(Path.of("src/test/java"))) {
            for (Path file : files.filter(f -> f.toString().endsWith("Test.java")).sorted().toList()) {
                Matcher call = SAID.matcher(Files.readString(file));
                while (call.find()) {
                    StringBuilder sentence = new StringBuilder();
                    Matcher literal = LITERAL.matcher(call.group(1));
                    while (literal.find()) {
                        sentence.append(literal.group(1));
                    }
                    sentences.add(plain(sentence.toString()));
                }
            }
        }
        return sentences;
    }

    private static boolean cover(String document, String sentence, boolean[] covered) {
        boolean found = false;
        for (int at = document.indexOf(sentence); at >= 0; at = document.indexOf(sentence, at + 1)) {
            found = true;
            for (int i = at; i < at + sentence.length(); i++) {
                covered[i] = true;
            }
        }
        return found;
    }

    /** The stretches that no test says, if there is a letter or a digit in them. */
    private static List<String> left(String document, boolean[] covered) {
        List<String> left = new ArrayList<>();
        StringBuilder stretch = new StringBuilder();
        for (int i = 0; i <= document.length(); i++) {
            if (i < document.length() && !covered[i]) {
                stretch.append(document.charAt(i));
            } else {
                if (stretch.chars().anyMatch(Character::isLetterOrDigit)) {
                    left.add(stretch.toString());
                }
                stretch.setLength(0);
            }
        }
        return left;
    }
}
