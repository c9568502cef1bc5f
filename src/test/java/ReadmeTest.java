import java.io.ByteArrayOutputStream;
import java.io.PrintStream;
import java.net.URL;
import java.net.URLClassLoader;
import java.nio.file.Files;
import java.nio.file.Path;

/** That README.md tells what is so: its program compiles and prints what stands behind it, and no test is left out. */
public final class ReadmeTest {
    private ReadmeTest() {
    }

    public static void main(String[] args) throws Exception {
        String readme = Files.readString(Path.of("README.md"));
        String got = printedBy(block(readme, "```java\n"));
        String due = block(readme, "```text\n");
        boolean same = got.equals(due);
        if (!same) {
            System.out.println("README.md's program prints:\n" + got);
        }
        boolean whole = true;
        try (var tests = Files.newDirectoryStream(Path.of("src/test/java"), "*.java")) {
            for (Path test : tests) {
                String name = test.getFileName().toString().replace(".java", "");
                if (!readme.contains("`" + name + "`")) {
                    System.out.println("README.md does not name " + name);
                    whole = false;
                }
            }
        }
        if (!same || !whole) {
            System.exit(1);
        }
        System.out.println("README.md holds");
    }

    private static String block(String readme, String head) {
        int from = readme.indexOf(head) + head.length();
        return readme.substring(from, readme.indexOf("```", from));
    }

    private static String printedBy(String program) throws Exception {
        Path folder = Files.createTempDirectory("readme");
        Path file = folder.resolve("Example.java");
        Files.writeString(file, program);
        int failed = new ProcessBuilder("javac", "-cp", System.getProperty("java.class.path"), "-d", folder.toString(),
            file.toString()).inheritIO().start().waitFor();
        if (failed != 0) {
            return "nothing: it does not compile\n";
        }
        PrintStream screen = System.out;
        ByteArrayOutputStream printed = new ByteArrayOutputStream();
        try (URLClassLoader loader = new URLClassLoader(new URL[] {folder.toUri().toURL()})) {
            System.setOut(new PrintStream(printed, true, "UTF-8"));
            loader.loadClass("Example").getMethod("main", String[].class).invoke(null, (Object) new String[0]);
        } finally {
            System.setOut(screen);
            Files.deleteIfExists(folder.resolve("Example.class"));
            Files.deleteIfExists(file);
            Files.deleteIfExists(folder);
        }
        return printed.toString("UTF-8").replace(System.lineSeparator(), "\n");
    }
}
