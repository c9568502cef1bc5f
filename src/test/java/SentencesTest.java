import java.nio.file.DirectoryStream;
import java.nio.file.Files;
import java.nio.file.Path;
import java.util.HashMap;
import java.util.Map;
import java.util.regex.Matcher;
import java.util.regex.Pattern;

/**
 * That the sentences which the tests are about stand in the document, word for word, and that no word and no number of
 * its terms and promises stands outside of them: so each of its sentences has a test that names it.
 */
public final class SentencesTest {
    private static final Path DOCUMENT = Path.of("../shared/DOC.md");
    private static final Path TESTS = Path.of("src/test/java");
    private static final Pattern SAYS = Pattern.compile("Due\\.says\\((TERMS|\"[^\"]*\"), (\"[^\"]*\")\\)");
    private static final Pattern WORD = Pattern.compile("[A-Za-z0-9]+");
    /** A promise begins with its call, which FaceTest holds against the class. */
    private static final Pattern NO_SENTENCE = Pattern.compile("```(text)?|^\\s*`[^`]*`:");
    private static int wrong = 0;

    private SentencesTest() {
    }

    private static void must(boolean holds, String what) {
        if (!holds) {
            wrong++;
            System.out.println(what);
        }
    }

    public static void main(String[] args) throws Exception {
        Map<String, StringBuilder> left = sections(Files.readString(DOCUMENT));
        Map<String, String> whole = new HashMap<>();
        left.forEach((name, text) -> whole.put(name, text.toString()));
        int quotes = 0;
        try (DirectoryStream<Path> tests = Files.newDirectoryStream(TESTS, "*Test.java")) {
            for (Path test : tests) {
                String source = Files.readString(test).replaceAll("\"\\s*\\+\\s*\"", "");
                Matcher says = SAYS.matcher(source);
                while (says.find()) {
                    quotes++;
                    String section = says.group(1).equals("TERMS") ? "Terms" : bare(says.group(1));
                    quoted(whole, left, section, bare(says.group(2)));
                }
            }
        }
        left.forEach(SentencesTest::nothingLeft);
        System.out.println(wrong == 0 ? quotes + " sentences stand in the document" : wrong + " sentences are not as due");
        if (wrong != 0) {
            System.exit(1);
        }
    }

    private static String bare(String quoted) {
        return quoted.substring(1, quoted.length() - 1);
    }

    private static Map<String, StringBuilder> sections(String document) {
        Map<String, StringBuilder> sections = new HashMap<>();
        StringBuilder now = new StringBuilder();
        boolean face = false;
        for (String line : document.split("\n")) {
            if (line.startsWith("## ")) {
                now = new StringBuilder();
                face = line.equals("## The public face");
                sections.put(line.substring(3).replaceAll(":.*", ""), now);
            } else if (!face) {
                now.append(line.replaceAll("==== [0-9]\\.", "").trim()).append(' ');
            }
        }
        return sections;
    }

    private static void quoted(Map<String, String> whole, Map<String, StringBuilder> left, String section, String words) {
        String text = whole.getOrDefault(section, "");
        int at = text.indexOf(words);
        must(at >= 0, section + " does not say: " + words);
        must(at < 0 || text.indexOf(words, at + 1) < 0, section + " says more than once: " + words);
        if (at >= 0) {
            blot(left.get(section), at, at + words.length());
        }
    }

    private static void blot(StringBuilder text, int from, int to) {
        for (int i = from; i < to; i++) {
            text.setCharAt(i, '#');
        }
    }

    /** Only the sections of what is promised: the terms and the promises. */
    private static void nothingLeft(String section, StringBuilder text) {
        if (!section.equals("Terms") && !section.startsWith("Promise ")) {
            return;
        }
        Matcher none = NO_SENTENCE.matcher(text);
        while (none.find()) {
            blot(text, none.start(), none.end());
        }
        Matcher word = WORD.matcher(text);
        while (word.find()) {
            int from = Math.max(0, word.start() - 40);
            int to = Math.min(text.length(), word.end() + 40);
            must(false, "no test names this of " + section + ": .." + text.substring(from, to) + "..");
        }
    }
}
