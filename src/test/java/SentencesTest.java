import java.nio.file.DirectoryStream;
import java.nio.file.Files;
import java.nio.file.Path;
import java.util.HashMap;
import java.util.Map;
import java.util.regex.Matcher;
import java.util.regex.Pattern;

/**
 * That the sentences which the tests of bounds are about stand in the document, word for word, and that no number of
 * the document and no word of a bound stands outside of them: so each of its edges has a test that names it.
 */
public final class SentencesTest {
    private static final Path DOCUMENT = Path.of("../shared/DOC.md");
    private static final Path TESTS = Path.of("src/test/java");
    private static final Pattern SAYS = Pattern.compile("Due\\.says\\((TERMS|\"[^\"]*\"), (\"[^\"]*\")\\)");
    private static final Pattern EDGES = Pattern.compile("[0-9][0-9,]*|at most|at least|or more|no more|rounded down|"
        + "MISSING|latest|the first|the lesser|the least|the most|empty|gone|stays?\\b|none|never|nobody|ahead of any|"
        + "round on|however often|both in it|beyond|already|not below|as long as|fewest|shortest|below 0");
    private static int wrong = 0;

    private SentencesTest() {
    }

    private static void must(boolean holds, String what) {
        if (!holds) {
            wrong++;
            System.out.println(what);
        }
    }

    public static void main(String[] args) throws Exception {
        Map<String, StringBuilder> left = sections(Files.readString(DOCUMENT));
        Map<String, String> whole = new HashMap<>();
        left.forEach((name, text) -> whole.put(name, text.toString()));
        int quotes = 0;
        try (DirectoryStream<Path> tests = Files.newDirectoryStream(TESTS, "*BoundsTest.java")) {
            for (Path test : tests) {
                String source = Files.readString(test).replaceAll("\"\\s*\\+\\s*\"", "");
                Matcher says = SAYS.matcher(source);
                while (says.find()) {
                    quotes++;
                    String section = says.group(1).equals("TERMS") ? "Terms" : bare(says.group(1));
                    quoted(whole, left, section, bare(says.group(2)));
                }
            }
        }
        left.forEach(SentencesTest::nothingLeft);
        System.out.println(wrong == 0 ? quotes + " sentences stand in the document" : wrong + " sentences are not as due");
        if (wrong != 0) {
            System.exit(1);
        }
    }

    private static String bare(String quoted) {
        return quoted.substring(1, quoted.length() - 1);
    }

    private static Map<String, StringBuilder> sections(String document) {
        Map<String, StringBuilder> sections = new HashMap<>();
        StringBuilder now = new StringBuilder();
        boolean face = false;
        for (String line : document.split("\n")) {
            if (line.startsWith("## ")) {
                now = new StringBuilder();
                face = line.equals("## The public face");
                sections.put(line.substring(3).replaceAll(":.*", ""), now);
            } else if (!face) {
                now.append(line.replaceAll("==== [0-9]\\.", "").trim()).append(' ');
            }
        }
        return sections;
    }

    private static void quoted(Map<String, String> whole, Map<String, StringBuilder> left, String section, String words) {
        String text = whole.getOrDefault(section, "");
        int at = text.indexOf(words);
        must(at >= 0, section + " does not say: " + words);
        must(at < 0 || text.indexOf(words, at + 1) < 0, section + " says more than once: " + words);
        for (int i = at; at >= 0 && i < at + words.length(); i++) {
            left.get(section).setCharAt(i, '#');
        }
    }

    /** Only the sections of what is promised: the terms and the promises. */
    private static void nothingLeft(String section, StringBuilder text) {
        if (!section.equals("Terms") && !section.startsWith("Promise ")) {
            return;
        }
        Matcher edge = EDGES.matcher(text);
        while (edge.find()) {
            int from = Math.max(0, edge.start() - 40);
            int to = Math.min(text.length(), edge.end() + 40);
            must(false, "no test names this of " + section + ": .." + text.substring(from, to) + "..");
        }
    }
}
