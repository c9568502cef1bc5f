import java.nio.file.Files;
import java.nio.file.Path;
import java.util.ArrayList;
import java.util.List;
import java.util.regex.Matcher;
import java.util.regex.Pattern;

/** That the class has the face that the document prints, call by call, in its order and under its headings. */
public final class FaceTest {
    private static final String TERMS = "Terms";
    private static final String MEMBER = "public (?!final class)[^;{]*";

    private FaceTest() {
    }

    public static void main(String[] args) throws Exception {
        String document = Files.readString(Path.of("../shared/DOC.md"));
        String source = Files.readString(Path.of("src/main/java/FlueHouse.java"));
        List<String> due = members(document.substring(document.indexOf("```java"), document.indexOf("## Terms")));
        sameFace(due, members(source));
        samePromises(due, document);
        headings(source);
        Due.end();
    }

    private static List<String> members(String text) {
        List<String> all = new ArrayList<>();
        Matcher member = Pattern.compile("(?m)^    (" + MEMBER + ")").matcher(text);
        while (member.find()) {
            all.add(member.group(1).trim());
        }
        return all;
    }

    private static void sameFace(List<String> due, List<String> got) {
        Due.is("members in the document's face", due.size(), 33);
        Due.is("members of the class", got.size(), due.size());
        for (int i = 0; i < due.size() && i < got.size(); i++) {
            Due.is(got.get(i) + " in place of " + due.get(i), got.get(i).equals(due.get(i)), true);
        }
    }

    /** The face is the constant, and then the call of each promise. */
    private static void samePromises(List<String> due, String document) {
        Matcher promise = Pattern.compile("## Promise ([0-9]+): .*\n\n`([^`]*)`:").matcher(document);
        int many = 0;
        while (promise.find()) {
            many++;
            Due.is("the promises' numbers", Integer.parseInt(promise.group(1)), many);
            Due.is(promise.group(2), many < due.size() && due.get(many).equals("public " + promise.group(2)), true);
        }
        Due.is("promises", many, 32);
    }

    private static void headings(String source) {
        Due.says(TERMS, "Ahead of the calls `tray`, `write`, `read`, `pour` the interface says: ---- TRAYS.");
        under(source, "TRAYS", "tray", "write", "read", "pour");
        Due.says(TERMS, "Ahead of the calls `feed`, `plant`, `laws`, `fault`, `cleaner`, `works` the interface says: "
            + "---- PLANT and LAWS.");
        under(source, "PLANT and LAWS", "feed", "plant", "laws", "fault", "cleaner", "works");
        Due.says(TERMS, "Ahead of the calls `row`, `warmth`, `knock`, `hole`, `off`, `asof` the interface says: "
            + "---- ROWS and EVENTS.");
        under(source, "ROWS and EVENTS", "row", "warmth", "knock", "hole", "off", "asof");
        Due.says(TERMS, "Ahead of the calls `up`, `at`, `whose`, `broken`, `breach` the interface says: "
            + "---- what goes through.");
        under(source, "what goes through", "up", "at", "whose", "broken", "breach");
        Due.says(TERMS, "Ahead of the calls `torn`, `tornTold`, `knocks`, `knockSet` the interface says: "
            + "---- TORN, KNOCKS.");
        under(source, "TORN, KNOCKS", "torn", "tornTold", "knocks", "knockSet");
        Due.says(TERMS, "Ahead of the calls `rowOf`, `rowAt`, `air`, `gauge`, `gaugeTold` the interface says: "
            + "---- on paper.");
        under(source, "on paper", "rowOf", "rowAt", "air", "gauge", "gaugeTold");
    }

    private static void under(String source, String heading, String... calls) {
        String line = "    // ---- " + heading + "\n";
        int from = source.indexOf(line);
        Due.is("the heading " + heading, from >= 0, true);
        int to = source.indexOf("    // ---- ", from + line.length());
        Matcher call = Pattern.compile("(?m)^    public [a-z]+ ([A-Za-z]+)\\(").matcher(source);
        call.region(Math.max(0, from), Math.max(0, to));
        List<String> got = new ArrayList<>();
        while (call.find()) {
            got.add(call.group(1));
        }
        Due.is("calls under " + heading + ": " + got, got.equals(List.of(calls)), true);
    }
}
