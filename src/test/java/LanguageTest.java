import java.lang.management.ManagementFactory;
import java.lang.reflect.Constructor;
import java.lang.reflect.Field;
import java.lang.reflect.Method;
import java.lang.reflect.Modifier;
import java.nio.file.Files;
import java.nio.file.Path;
import java.util.ArrayList;
import java.util.HashSet;
import java.util.List;
import java.util.Set;
import java.util.TreeSet;
import java.util.regex.Matcher;
import java.util.regex.Pattern;

/** The public face, those rules of LANGUAGE.md that can be looked up, and that calls make no objects. */
public final class LanguageTest {
    private static final String SOURCE = "src/main/java/FlueHouse.java";
    private static int wrong = 0;

    private static void must(boolean holds, String what) {
        if (!holds) {
            wrong++;
            System.out.println(what);
        }
    }

    public static void main(String[] args) throws Exception {
        face();
        classes();
        source(bare(Files.readString(Path.of(SOURCE))));
        makesNothing();
        System.out.println(wrong == 0 ? "the form is kept" : wrong + " rules are not kept");
        if (wrong != 0) {
            System.exit(1);
        }
    }

    private static void face() {
        String[] due = {"int status()", "boolean tray(int,int,int)", "boolean write(int,int,long)", "long read(int,int)",
            "boolean pour(int,int,int,int,int)", "int feed(int,int,int,int,int)", "int plant(int)", "int laws(int)",
            "int fault(int)", "int cleaner(int,int)", "int works(int)", "boolean row(int,int,int,int,int)",
            "boolean warmth(int,int)", "boolean knock(int,int,int)", "boolean hole(int,int,int,int)",
            "boolean off(int,int,int,int)", "boolean asof(int)", "int up(int,int)", "int at(int,int,int,int)",
            "int whose(int,int,int)", "int broken(int,int)", "int breach(int)", "int torn(int,int,int,int)",
            "int tornTold(int)", "int knocks(int,int,int,int,int)", "int knockSet()", "int rowOf(int,int,int,int)",
            "int rowAt(int)", "int air(int,int,int,int)", "int gauge(int,int,int,int)", "int gaugeTold(int,int)"};
        Set<String> found = new TreeSet<>();
        for (Method m : FlueHouse.class.getDeclaredMethods()) {
            if (!Modifier.isPrivate(m.getModifiers())) {
                List<String> types = new ArrayList<>();
                for (Class<?> t : m.getParameterTypes()) {
                    types.add(t.getName());
                }
                found.add(m.getReturnType().getName() + " " + m.getName() + "(" + String.join(",", types) + ")");
                must(Modifier.isPublic(m.getModifiers()) && !Modifier.isStatic(m.getModifiers()), "not public: " + m);
            }
        }
        must(found.equals(new TreeSet<>(List.of(due))), "the face is " + found);
        must(Modifier.isFinal(FlueHouse.class.getModifiers()), "the class is not final");
        Constructor<?>[] makers = FlueHouse.class.getDeclaredConstructors();
        must(makers.length == 1 && makers[0].getParameterCount() == 0 && Modifier.isPublic(makers[0].getModifiers()),
            "the constructor is another");
        for (Field f : FlueHouse.class.getDeclaredFields()) {
            must(Modifier.isPrivate(f.getModifiers()) || f.getName().equals("NONE"), "a field that is seen: " + f);
        }
    }

    private static void classes() {
        Set<String> open = new HashSet<>();
        for (Method m : FlueHouse.class.getDeclaredMethods()) {
            if (Modifier.isPublic(m.getModifiers())) {
                open.add(m.getName());
            }
        }
        List<Class<?>> all = new ArrayList<>(List.of(FlueHouse.class.getDeclaredClasses()));
        must(all.size() <= 12, "too many classes: " + all.size());
        for (Class<?> c : all) {
            must(Modifier.isStatic(c.getModifiers()) && !Modifier.isPublic(c.getModifiers()), "another sort of class: " + c);
            for (Method m : c.getDeclaredMethods()) {
                must(!open.contains(m.getName()), "a name of the face: " + m);
            }
        }
        all.add(FlueHouse.class);
        for (Class<?> c : all) {
            int fields = 0;
            for (Field f : c.getDeclaredFields()) {
                boolean constant = Modifier.isStatic(f.getModifiers());
                must(!constant || Modifier.isFinal(f.getModifiers()), "static and not final: " + f);
                fields += constant ? 0 : 1;
            }
            must(fields <= 20, "too many fields: " + c + " has " + fields);
            for (Method m : c.getDeclaredMethods()) {
                must(m.getParameterCount() <= 7, "too many parameters: " + m);
                must(c != FlueHouse.class || !Modifier.isPrivate(m.getModifiers()) || !open.contains(m.getName()),
                    "private with a name of the face: " + m);
            }
        }
    }

    /** The source without comments and texts. */
    private static String bare(String source) {
        return source.replaceAll("(?s)/\\*.*?\\*/", "").replaceAll("//[^\n]*", "")
            .replaceAll("\"[^\"\n]*\"", "\"\"").replaceAll("'[^'\n]'", "''");
    }

    private static void source(String text) {
        for (String word : new String[] {"throw", "throws", "try", "catch", "finally", "synchronized", "assert", "volatile",
            "Exact", "hashCode", "toString", "System\\.out", "System\\.nano", "System\\.current", "->", "::", "\\bvar\\b"}) {
            String pattern = word.matches("[a-z]+") ? "\\b" + word + "\\b" : word;
            must(!Pattern.compile(pattern).matcher(text).find(), "not allowed: " + word);
        }
        Matcher imports = Pattern.compile("import ([^;]*);").matcher(text);
        while (imports.find()) {
            must(Set.of("java.util.Arrays", "java.util.ArrayList", "java.util.List").contains(imports.group(1)),
                "not allowed: " + imports.group());
        }
        must(!text.contains("package "), "a package line");
        String head = null;
        int from = 0;
        String[] lines = text.split("\n");
        for (int i = 0; i < lines.length; i++) {
            if (lines[i].matches(" {4,8}[a-z][^=;]*\\(.*") && !lines[i].contains(" class ")) {
                head = lines[i].trim();
                from = i;
            }
            if (head != null && lines[i].matches(" {4}}| {8}}")) {
                must(i - from < 60, "too long: " + head);
                head = null;
            }
        }
    }

    private static void makesNothing() {
        com.sun.management.ThreadMXBean bean = (com.sun.management.ThreadMXBean) ManagementFactory.getThreadMXBean();
        long self = Thread.currentThread().getId();
        long fewest = Long.MAX_VALUE;
        for (int round = 0; round < 3; round++) {
            FlueHouse x = new FlueHouse();
            long ahead = bean.getThreadAllocatedBytes(self);
            useAll(x);
            fewest = Math.min(fewest, bean.getThreadAllocatedBytes(self) - ahead);
        }
        must(fewest < 4096, "calls made " + fewest + " bytes");
    }

    private static void useAll(FlueHouse x) {
        // "cloth a holds 90,90,90,90 full 9;works w at a; "
        x.feed(0x636c6f74, 0x68206120, 0x686f6c64, 0x73203930, 0x2c39302c);
        x.feed(0x39302c39, 0x30206675, 0x6c6c2039, 0x3b776f72, 0x6b732077);
        x.feed(0x20617420, 0x613b2020, 0x20202020, 0x20202020, 0x20202020);
        must(x.plant(60) == 1, "the plant of the count was refused");
        // "l:(fine+1)*2 over 2 below 3; "
        x.feed(0x6c3a2866, 0x696e652b, 0x31292a32, 0x206f7665, 0x72203220);
        x.feed(0x62656c6f, 0x7720333b, 0x20202020, 0x20202020, 0x20202020);
        must(x.laws(40) == 1, "the laws of the count were refused");
        for (int h = 0; h < 48; h++) {
            x.row(0, h, h % 4, 100, 0);
        }
        x.knock(0, 3, 0);
        x.hole(0, 5, 10, 0);
        x.off(0, 7, 8, 0);
        x.warmth(1, 1);
        for (int h = 47; h >= 0; h--) {
            x.at(0, h, -1, 3);
            x.up(h, -1);
            x.whose(0, h, 0);
            x.broken(0, h);
        }
        x.breach(0);
        x.asof(50);
        x.tray(0, 3, 60);
        x.tray(1, 3, 60);
        x.write(0, 0, 5);
        x.pour(0, 0, 1, 5, 5);
        x.torn(0, 20, 24, 1000);
        x.knocks(0, 0, 1, 1, 47);
        x.rowOf(0, 7, 1, 40000);
        x.write(1, 0, 5);
        x.air(1, 1, 200, 0);
        x.gauge(0, 1, 10, 1000);
        x.gaugeTold(5, 0);
    }
}
