import java.nio.charset.StandardCharsets;

/** For each promise of the document: ordinary inputs, its edges, and wrong inputs, with answers worked out by hand. */
public final class PromiseTest {
    private static int wrong = 0;
    private static int promise = 0;

    private static final String CYCLONE_A = "cyclone a holds 10, 50, 80, 100; ";
    private static final String ALL =
        CYCLONE_A + "plates b holds 90, 90, 90, 91 layer 50 flies 20; cloth c holds 80, 100, 100, 100 full 200; "
        + "spray d holds 50, 0, 0, 0 warm 30; works w at a; works v at b;";

    private static void is(String what, long got, long want) {
        if (got != want) {
            wrong++;
            System.out.println("promise " + promise + ": " + what + " answered " + got + ", due is " + want);
        }
    }

    private static void is(String what, boolean got, boolean want) {
        is(what, got ? 1 : 0, want ? 1 : 0);
    }

    private static void refused(FlueHouse x, String what, long got, int status) {
        is(what, got, FlueHouse.NONE);
        is("status behind " + what, x.status(), status);
    }

    private static void refused(FlueHouse x, String what, boolean got, int status) {
        is(what, got, false);
        is("status behind " + what, x.status(), status);
    }

    private static void taken(FlueHouse x, String what, long got, long want) {
        is(what, got, want);
        is("status behind " + what, x.status(), 0);
    }

    private static void taken(FlueHouse x, String what, boolean got) {
        is(what, got, true);
        is("status behind " + what, x.status(), 0);
    }

    private static int feedText(FlueHouse x, String text) {
        byte[] bytes = text.getBytes(StandardCharsets.ISO_8859_1);
        for (int i = 0; i < bytes.length; i += 20) {
            int[] five = new int[5];
            for (int k = 0; k < 20; k++) {
                int b = i + k < bytes.length ? bytes[i + k] & 255 : 0;
                five[k / 4] |= b << (24 - k % 4 * 8);
            }
            x.feed(five[0], five[1], five[2], five[3], five[4]);
        }
        return bytes.length;
    }

    private static int plantText(FlueHouse x, String text) {
        return x.plant(feedText(x, text));
    }

    private static int lawsText(FlueHouse x, String text) {
        return x.laws(feedText(x, text));
    }

    private static FlueHouse housed(String text) {
        FlueHouse x = new FlueHouse();
        if (plantText(x, text) < 0) {
            wrong++;
            System.out.println("promise " + promise + ": this plant was refused: " + text);
        }
        return x;
    }

    private static void plantFault(String text, int kind, int place) {
        FlueHouse x = new FlueHouse();
        refused(x, "plant of " + text, plantText(x, text), 9);
        is("fault(0) of " + text, x.fault(0), kind);
        is("fault(1) of " + text, x.fault(1), place);
    }

    private static void lawFault(String text, int kind, int place) {
        FlueHouse x = new FlueHouse();
        refused(x, "laws of " + text, lawsText(x, text), 9);
        is("fault(0) of " + text, x.fault(0), kind);
        is("fault(1) of " + text, x.fault(1), place);
    }

    private static void fill(FlueHouse x, int tray, int sort, long... numbers) {
        x.tray(tray, sort, numbers.length);
        for (int i = 0; i < numbers.length; i++) {
            x.write(tray, i, numbers[i]);
        }
    }

    public static void main(String[] args) {
        newObject();
        trays();
        pour();
        feed();
        plant();
        plantFaults();
        laws();
        fault();
        cleanerAndWorks();
        rowsAndEvents();
        limits();
        asof();
        upAndAt();
        holdsAndWays();
        whose();
        broken();
        breach();
        torn();
        knocks();
        rowOf();
        air();
        gauge();
        System.out.println(wrong == 0 ? "all promises hold" : wrong + " answers are not as due");
        if (wrong != 0) {
            System.exit(1);
        }
    }

    private static void newObject() {
        promise = 1;
        FlueHouse x = new FlueHouse();
        is("NONE", FlueHouse.NONE, -1);
        is("status()", x.status(), 0);
        for (int t = 0; t < 4; t++) {
            refused(x, "read of a new tray", x.read(t, 0), 2);
        }
        refused(x, "cleaner(0, 0)", x.cleaner(0, 0), 1);
        refused(x, "works(0)", x.works(0), 1);
        refused(x, "broken(0, 0)", x.broken(0, 0), 1);
        refused(x, "plant(1) of an empty tape", x.plant(1), 1);
        taken(x, "up(47, -1)", x.up(47, -1), 0);
        promise = 2;
        refused(x, "a wrong call", x.up(48, 0), 1);
        x.feed(0, 0, 0, 0, 0);
        x.fault(0);
        x.status();
        is("status() is not changed by feed, fault, status", x.status(), 1);
        taken(x, "a fine call", x.up(0, 0), 0);
    }

    private static void trays() {
        promise = 3;
        FlueHouse x = new FlueHouse();
        refused(x, "tray(-1, 0, 1)", x.tray(-1, 0, 1), 1);
        refused(x, "tray(4, 0, 1)", x.tray(4, 0, 1), 1);
        refused(x, "tray(0, -1, 1)", x.tray(0, -1, 1), 1);
        refused(x, "tray(0, 4, 1)", x.tray(0, 4, 1), 1);
        refused(x, "tray(0, 0, -1)", x.tray(0, 0, -1), 1);
        refused(x, "tray(0, 0, 61)", x.tray(0, 0, 61), 1);
        refused(x, "read behind refused trays", x.read(0, 0), 2);
        taken(x, "tray(0, 0, 0)", x.tray(0, 0, 0));
        refused(x, "read(0, 0) of none", x.read(0, 0), 3);
        taken(x, "tray(3, 3, 60)", x.tray(3, 3, 60));
        taken(x, "read(3, 59)", x.read(3, 59), 0);
        x.write(3, 59, 7);
        taken(x, "tray(3, 3, 60) again", x.tray(3, 3, 60));
        taken(x, "read(3, 59) is 0 again", x.read(3, 59), 0);
        promise = 4;
        refused(x, "write(-1, 0, 1)", x.write(-1, 0, 1), 1);
        refused(x, "write(4, 0, 1)", x.write(4, 0, 1), 1);
        refused(x, "write(1, -5, 1)", x.write(1, -5, 1), 2);
        refused(x, "write(3, -1, 1)", x.write(3, -1, 1), 3);
        refused(x, "write(3, 60, 1)", x.write(3, 60, 1), 3);
        long[] cut = {(byte) 0x1234567890abcdefL, (short) 0x1234567890abcdefL, (int) 0x1234567890abcdefL,
            0x1234567890abcdefL};
        for (int sort = 0; sort < 4; sort++) {
            x.tray(1, sort, 2);
            taken(x, "write of sort " + sort, x.write(1, 1, 0x1234567890abcdefL));
            promise = 5;
            taken(x, "read of sort " + sort, x.read(1, 1), cut[sort]);
            x.write(1, 0, 255);
            taken(x, "255 of sort " + sort, x.read(1, 0), sort == 0 ? -1 : 255);
            promise = 4;
        }
        promise = 5;
        refused(x, "read(-1, 0)", x.read(-1, 0), 1);
        refused(x, "read(4, 0)", x.read(4, 0), 1);
        refused(x, "read(2, 0)", x.read(2, 0), 2);
        refused(x, "read(1, -1)", x.read(1, -1), 3);
        refused(x, "read(1, 2)", x.read(1, 2), 3);
        x.write(1, 0, -1);
        taken(x, "-1 that is no NONE", x.read(1, 0), -1);
    }

    private static void pour() {
        promise = 6;
        FlueHouse x = new FlueHouse();
        fill(x, 0, 1, 1, 2, 3, 4, 5);
        fill(x, 1, 1, 9, 9, 9);
        fill(x, 2, 2, 9, 9, 9);
        refused(x, "pour from -1", x.pour(-1, 0, 1, 0, 1), 1);
        refused(x, "pour from 4", x.pour(4, 0, 1, 0, 1), 1);
        refused(x, "pour to -1", x.pour(0, 0, -1, 0, 1), 1);
        refused(x, "pour to 4", x.pour(0, 0, 4, 0, 1), 1);
        refused(x, "pour at place -1", x.pour(0, -1, 1, 0, 1), 1);
        refused(x, "pour to place -1", x.pour(0, 0, 1, -1, 1), 1);
        refused(x, "pour of -1", x.pour(0, 0, 1, 0, -1), 1);
        refused(x, "a number below 0 ahead of a missing tray", x.pour(0, -1, 3, 0, 1), 1);
        refused(x, "pour to a missing one", x.pour(0, 0, 3, 0, 1), 2);
        refused(x, "pour from a missing one", x.pour(3, 0, 0, 0, 1), 2);
        refused(x, "unlike sorts ahead of places", x.pour(0, 99, 2, 0, 1), 8);
        refused(x, "pour beyond the first's end", x.pour(0, 4, 1, 0, 2), 3);
        refused(x, "pour beyond the other's end", x.pour(0, 0, 1, 2, 2), 3);
        refused(x, "pour of very many", x.pour(0, Integer.MAX_VALUE, 1, 0, Integer.MAX_VALUE), 3);
        taken(x, "pour(0, 3, 1, 1, 2)", x.pour(0, 3, 1, 1, 2));
        is("first", x.read(1, 0), 9);
        is("second", x.read(1, 1), 4);
        is("third", x.read(1, 2), 5);
        taken(x, "pour onto itself", x.pour(0, 0, 0, 1, 4));
        for (int i = 1; i < 5; i++) {
            is("as they were, forth", x.read(0, i), i);
        }
        taken(x, "pour back", x.pour(0, 2, 0, 0, 3));
        is("as they were, back", x.read(0, 0), 2);
        is("as they were, back", x.read(0, 2), 4);
        taken(x, "pour of none at the end", x.pour(0, 5, 1, 3, 0));
        refused(x, "pour of none beyond it", x.pour(0, 6, 1, 3, 0), 3);
    }

    private static void feed() {
        promise = 7;
        FlueHouse x = new FlueHouse();
        for (int i = 1; i <= 30; i++) {
            is("feed " + i, x.feed(0x20202020, 0x20202020, 0x20202020, 0x20202020, 0x20202020), i * 20);
        }
        is("feed beyond 600", x.feed(1, 2, 3, 4, 5), -1);
        is("plant of 600 blanks", x.plant(600), 0);
        is("feed behind it", x.feed(0x636c6f74, 0x68206120, 0x686f6c64, 0x7320312c, 0x322c332c), 20);
        is("feed", x.feed(0x34206675, 0x6c6c2039, 0x3b0a0a0a, 0, 0), 40);
        is("the highest byte first", x.plant(32), 1);
        is("cleaner(0, 5)", x.cleaner(0, 5), 4);
    }

    private static void plant() {
        promise = 8;
        FlueHouse x = new FlueHouse();
        feedText(x, CYCLONE_A);
        refused(x, "plant(-1)", x.plant(-1), 1);
        refused(x, "plant(41)", x.plant(41), 1);
        taken(x, "plant(33): the tape was kept", x.plant(33), 1);
        refused(x, "plant(1): the tape is empty", x.plant(1), 1);
        taken(x, "plant(0)", x.plant(0), 0);
        refused(x, "cleaner(0, 0) of an empty plant", x.cleaner(0, 0), 1);
        is("tokens need no blanks", plantText(x, "cyclone\na holds1,02,003,0004;works w at a;"), 1);
        is("holds 0004", x.cleaner(0, 5), 4);
        x.row(0, 0, 0, 10, 5);
        x.off(0, 0, 47, 6);
        x.warmth(3, 9);
        refused(x, "a plant with a fault", plantText(x, "cyclone"), 9);
        is("the plant stays", x.cleaner(0, 2), 1);
        is("rows stay", x.up(0, 0), 10);
        refused(x, "the tape is empty behind a fault", x.plant(1), 1);
        is("taken anew", plantText(x, "spray a holds 100,0,0,0 warm 9; works w at a;"), 1);
        is("rows are gone", x.up(0, 0), 0);
        refused(x, "the latest known stays", x.row(0, 0, 0, 10, 5), 5);
        taken(x, "row known by 6", x.row(0, 3, 0, 10, 6));
        taken(x, "warmth stays, the event is gone", x.up(3, 0), 10);
        StringBuilder most = new StringBuilder();
        for (char c = 'a'; c <= 'h'; c++) {
            most.append("cyclone ").append(c).append(" holds 1,1,1,1;");
        }
        for (char c = 'p'; c <= 's'; c++) {
            most.append("works ").append(c).append(" at h;");
        }
        is("8 cleaners, 4 works", plantText(x, most + "join a to b share 0, c share 0, d share 0, e share 0,"
            + "f share 0, g share 0, h share 0, stack share 100;"), 8);
        is("8 ways", x.cleaner(0, 1), 8);
        is("the first and last letters and digits", plantText(x, "cloth az holds 09,90,0,9 full 9; cloth za holds 1,1,1,1"
            + " full 1;"), 2);
        is("holds 90", x.cleaner(0, 3), 90);
        is("names of eight letters", plantText(x, "cloth abcdefgh holds 0,0,100,100 full 9999;"), 1);
    }

    private static void plantFaults() {
        promise = 8;
        String b = "cyclone b holds 1,1,1,1;";
        plantFault("?", 1, 0);
        plantFault("cyclone A", 1, 8);
        plantFault("cyclone\ta", 1, 7);
        plantFault("cyclone a holds 1:1", 1, 17);
        plantFault("cyclone a holds " + (char) 233, 1, 16);
        plantFault("cyclone a holds 00000,1", 1, 16);
        plantFault("12345", 1, 0);
        plantFault("1", 2, 0);
        plantFault("a", 2, 0);
        plantFault(" ; ", 2, 1);
        plantFault("cyclone ", 2, 8);
        plantFault("cyclone abcdefghi holds", 2, 8);
        plantFault("cyclone 7", 2, 8);
        for (String word : new String[] {"cyclone", "plates", "cloth", "spray", "join", "works", "holds", "layer",
            "flies", "full", "warm", "to", "at", "share", "stack"}) {
            plantFault("cloth " + word, 2, 6);
            plantFault("join " + word, 2, 5);
        }
        plantFault("cyclone a holds 1 1", 2, 18);
        plantFault("cyclone a holds 1,1,1,1,", 2, 23);
        plantFault("cyclone a holds 1,1,1,1 full 3;", 2, 24);
        plantFault("plates a holds 1,1,1,1;", 2, 22);
        plantFault("plates a holds 1,1,1,1 layer 5;", 2, 30);
        plantFault("cloth a holds 1,1,1,1 layer 5;", 2, 22);
        plantFault("spray a holds 1,1,1,1 full 5;", 2, 22);
        plantFault(b + b, 3, 32);
        plantFault(b + "works b", 3, 30);
        plantFault(b + "works w at b; cloth w", 3, 44);
        plantFault(b + "works w at b; works w", 3, 44);
        plantFault(b + "works w at w", 3, 35);
        plantFault(b + "works w at c", 3, 35);
        plantFault(b + "join c", 3, 29);
        plantFault(b + "works w at b; join w", 3, 43);
        plantFault(b + "join b to c", 3, 34);
        plantFault(b + "join b to ;", 2, 34);
        plantFault(b + "join b to ?", 1, 34);
        plantFault(b + "join b to stack ;", 2, 40);
        plantFault(b + "join b to stack share ;", 2, 46);
        plantFault(b + "join b stack", 2, 31);
        plantFault(b + "join b to stack share 100 stack", 2, 50);
        plantFault(b + "works w b", 2, 32);
        plantFault("cyclone a 1,1,1,1", 2, 10);
        plantFault("cyclone a holds ,", 2, 16);
        plantFault("cyclone a;", 2, 9);
        plantFault("cyclone a holds 1;", 2, 17);
        plantFault("cyclone a holds 1,1,1,1 works", 2, 24);
        plantFault(b + "join b to stack share 100 works w at b;", 2, 50);
        plantFault("cyclone a holds 1,1,1,1 b", 2, 24);
        plantFault(b + "join b to works", 2, 34);
        plantFault(b + "works w at stack", 2, 35);
        plantFault("cyclone a holds 101", 4, 16);
        plantFault("plates a holds 1,1,1,1 layer 0", 4, 29);
        plantFault("plates a holds 1,1,1,1 layer 9999 flies 101", 4, 40);
        plantFault("cloth a holds 1,1,1,1 full 0", 4, 27);
        plantFault(b + "join b to stack share 101", 4, 46);
        plantFault(b + "join b to b", 5, 34);
        plantFault(b + "cyclone c holds 1,1,1,1;join c to b", 5, 58);
        plantFault(b + "cyclone c holds 1,1,1,1;join b to c share 1,c", 5, 68);
        plantFault(b + "join b to stack share 1, stack", 5, 49);
        plantFault(b + "join b to stack share 100; join b", 5, 56);
        plantFault(b + "join b to stack share 99;", 7, 48);
        plantFault(b + "cyclone c holds 1,1,1,1;join b to c share 100, stack share 1;", 7, 84);
        StringBuilder eight = new StringBuilder();
        for (char c = 'a'; c <= 'h'; c++) {
            eight.append("cyclone ").append(c).append(" holds 1,1,1,1;");
        }
        plantFault(eight + "cyclone i", 6, 8 * 24 + 8);
        plantFault(eight + "cyclone a", 3, 8 * 24 + 8);
        plantFault(eight + "cyclone to", 2, 8 * 24 + 8);
        String four = b + "works p at b;works q at b;works r at b;works s at b;";
        plantFault(four + "works t", 6, 24 + 52 + 6);
        plantFault(four + "works b", 3, 24 + 52 + 6);
    }

    private static void laws() {
        promise = 9;
        FlueHouse x = new FlueHouse();
        feedText(x, "l: fine over 1 below 0; ");
        refused(x, "laws(-1)", x.laws(-1), 1);
        refused(x, "laws(41)", x.laws(41), 1);
        taken(x, "laws(24): the tape was kept", x.laws(24), 1);
        refused(x, "laws(1): the tape is empty", x.laws(1), 1);
        is("0 is not below 0", x.broken(0, 0), 1);
        refused(x, "laws with a fault", lawsText(x, "l: 1 over 1"), 9);
        is("the laws stay", x.broken(0, 0), 1);
        refused(x, "the tape is empty behind a fault", x.laws(1), 1);
        is("a plant's words are names", lawsText(x, "cloth:1 over 1 below 1;plates:0 over 24 below 9999;"), 2);
        taken(x, "laws(0)", x.laws(0), 0);
        refused(x, "broken(0, 0) of no laws", x.broken(0, 0), 1);
        is("six brackets", lawsText(x, "l:((((((1)))))) over 1 below 1;"), 1);
        is("eight laws", lawsText(x, "a:1 over 1 below 1;b:1 over 1 below 1;c:1 over 1 below 1;d:1 over 1 below 1;"
            + "e:1 over 1 below 1;f:1 over 1 below 1;g:1 over 1 below 1;h:1 over 1 below 1;"), 8);
        lawFault("l,", 1, 1);
        lawFault("l:12345", 1, 2);
        lawFault("", 0, -1, x);
        lawFault("L", 1, 0);
        lawFault("l", 2, 1);
        lawFault("l  ", 2, 3);
        lawFault("abcdefghi:", 2, 0);
        for (String word : new String[] {"fine", "small", "coarse", "grit", "warmth", "hour", "over", "below"}) {
            lawFault(word + ":", 2, 0);
        }
        lawFault("l:over", 2, 2);
        lawFault("l:dust", 2, 2);
        lawFault("l:-1", 2, 2);
        lawFault("l:1+", 2, 4);
        lawFault("l:1 2", 2, 4);
        lawFault("l:1 fine", 2, 4);
        lawFault("l:(1 over", 2, 5);
        lawFault("l:1)", 2, 3);
        lawFault("l:()", 2, 3);
        lawFault("l:1(", 2, 3);
        lawFault("l:1 below", 2, 4);
        lawFault("l:1 over hour", 2, 9);
        lawFault("l:1 over 1;", 2, 10);
        lawFault("l:1 over 1 below 1", 2, 18);
        lawFault("l:1 over 25", 6, 9);
        lawFault("l:1 over 0", 6, 9);
        lawFault("l:(((((((", 5, 8);
        lawFault("l:((((((1)+((", 5, 12);
        lawFault("l:1 over 1 below 1;l:", 4, 19);
        String eight = "a:1 over 1 below 1;b:1 over 1 below 1;c:1 over 1 below 1;d:1 over 1 below 1;"
            + "e:1 over 1 below 1;f:1 over 1 below 1;g:1 over 1 below 1;h:1 over 1 below 1;";
        lawFault(eight + "i", 3, 152);
        lawFault(eight + "a", 3, 152);
        lawFault(eight + "hour", 2, 152);
    }

    private static void lawFault(String text, int kind, int place, FlueHouse x) {
        is("laws of an empty text", lawsText(x, text), 0);
        is("fault(0)", x.fault(0), kind);
        is("fault(1)", x.fault(1), place);
    }

    private static void fault() {
        promise = 10;
        FlueHouse x = new FlueHouse();
        is("fault(0) ahead of any", x.fault(0), -1);
        is("fault(1) ahead of any", x.fault(1), -1);
        x.plant(-1);
        is("fault(0) behind status 1", x.fault(0), -1);
        plantText(x, "cyclone ?");
        is("fault(0)", x.fault(0), 1);
        is("fault(1)", x.fault(1), 8);
        is("fault(2)", x.fault(2), -1);
        is("fault(-1)", x.fault(-1), -1);
        x.laws(1);
        is("fault(0) behind status 1", x.fault(0), 1);
        x.laws(0);
        is("fault(0) without one", x.fault(0), 0);
        is("fault(1) without one", x.fault(1), -1);
        lawsText(x, "l:1 over 0");
        is("fault(0) of laws", x.fault(0), 6);
        is("fault(1) of laws", x.fault(1), 9);
    }

    private static void cleanerAndWorks() {
        promise = 11;
        FlueHouse x = housed(ALL + "join a to d share 30, stack share 70;");
        for (int c = 0; c < 4; c++) {
            taken(x, "the sort", x.cleaner(c, 0), c);
            taken(x, "ways", x.cleaner(c, 1), c == 0 ? 2 : 1);
        }
        taken(x, "holds of size 0", x.cleaner(0, 2), 10);
        taken(x, "holds of size 3", x.cleaner(1, 5), 91);
        refused(x, "cleaner(-1, 0)", x.cleaner(-1, 0), 1);
        refused(x, "cleaner(4, 0)", x.cleaner(4, 0), 1);
        refused(x, "cleaner(0, -1)", x.cleaner(0, -1), 1);
        refused(x, "cleaner(0, 6)", x.cleaner(0, 6), 1);
        promise = 12;
        taken(x, "works(0)", x.works(0), 0);
        taken(x, "works(1)", x.works(1), 1);
        refused(x, "works(2)", x.works(2), 1);
        refused(x, "works(-1)", x.works(-1), 1);
    }

    private static void rowsAndEvents() {
        promise = 13;
        FlueHouse x = housed(ALL);
        refused(x, "row of works -1", x.row(-1, 0, 0, 1, 0), 1);
        refused(x, "row of works 2", x.row(2, 0, 0, 1, 0), 1);
        refused(x, "row in -1", x.row(0, -1, 0, 1, 0), 1);
        refused(x, "row in 48", x.row(0, 48, 0, 1, 0), 1);
        refused(x, "row of size -1", x.row(0, 0, -1, 1, 0), 1);
        refused(x, "row of size 4", x.row(0, 0, 4, 1, 0), 1);
        refused(x, "row of -1", x.row(0, 0, 0, -1, 0), 1);
        refused(x, "row of 10000", x.row(0, 0, 0, 10000, 0), 1);
        refused(x, "row known by -1", x.row(0, 0, 0, 1, -1), 1);
        refused(x, "row known by 100", x.row(0, 0, 0, 1, 100), 1);
        taken(x, "row of 9999", x.row(0, 47, 3, 9999, 0));
        taken(x, "at of it", x.at(0, 47, 3, 0), 9999);
        taken(x, "row of 0", x.row(0, 47, 3, 0, 0));
        taken(x, "the latest counts", x.at(0, 47, 3, 0), 0);
        taken(x, "row known by 2", x.row(0, 0, 0, 1, 2));
        refused(x, "row known by 1", x.row(0, 0, 0, 7, 1), 5);
        taken(x, "nothing was changed", x.at(0, 0, 0, 0), 1);
        promise = 14;
        refused(x, "warmth in -1", x.warmth(-1, 0), 1);
        refused(x, "warmth in 48", x.warmth(48, 0), 1);
        refused(x, "warmth of -1", x.warmth(0, -1), 1);
        refused(x, "warmth of 10000", x.warmth(0, 10000), 1);
        taken(x, "warmth(47, 9999)", x.warmth(47, 9999));
        taken(x, "warmth(0, 0)", x.warmth(0, 0));
        promise = 15;
        refused(x, "knock(-1, 0, 2)", x.knock(-1, 0, 2), 1);
        refused(x, "knock(4, 0, 2)", x.knock(4, 0, 2), 1);
        refused(x, "knock(1, -1, 2)", x.knock(1, -1, 2), 1);
        refused(x, "knock(1, 48, 2)", x.knock(1, 48, 2), 1);
        refused(x, "knock(1, 0, -1)", x.knock(1, 0, -1), 1);
        refused(x, "knock(1, 0, 100)", x.knock(1, 0, 100), 1);
        refused(x, "knock(0, 0, 1): 5 ahead of 7", x.knock(0, 0, 1), 5);
        refused(x, "knock of a cyclone", x.knock(0, 0, 2), 7);
        refused(x, "knock of a spray", x.knock(3, 0, 2), 7);
        taken(x, "knock of plates", x.knock(1, 0, 2));
        taken(x, "knock of a cloth", x.knock(2, 47, 3));
        refused(x, "rows and events are known together", x.row(0, 0, 0, 1, 2), 5);
        promise = 16;
        refused(x, "hole(-1, 0, 1, 3)", x.hole(-1, 0, 1, 3), 1);
        refused(x, "hole(4, 0, 1, 3)", x.hole(4, 0, 1, 3), 1);
        refused(x, "hole(2, 48, 1, 3)", x.hole(2, 48, 1, 3), 1);
        refused(x, "hole(2, 0, 0, 3)", x.hole(2, 0, 0, 3), 1);
        refused(x, "hole(2, 0, 101, 3)", x.hole(2, 0, 101, 3), 1);
        refused(x, "hole(2, 0, 1, 100)", x.hole(2, 0, 1, 100), 1);
        refused(x, "hole(1, 0, 1, 2): 5 ahead of 7", x.hole(1, 0, 1, 2), 5);
        refused(x, "hole of plates", x.hole(1, 0, 1, 3), 7);
        taken(x, "hole of a cloth", x.hole(2, 0, 100, 3));
        taken(x, "hole of 1", x.hole(2, 47, 1, 4));
        promise = 17;
        refused(x, "off(-1, 0, 1, 4)", x.off(-1, 0, 1, 4), 1);
        refused(x, "off(4, 0, 1, 4)", x.off(4, 0, 1, 4), 1);
        refused(x, "off(0, -1, 1, 4)", x.off(0, -1, 1, 4), 1);
        refused(x, "off(0, 47, 48, 4)", x.off(0, 47, 48, 4), 1);
        refused(x, "off(0, 2, 1, 4)", x.off(0, 2, 1, 4), 1);
        refused(x, "off(0, 1, 1, 100)", x.off(0, 1, 1, 100), 1);
        refused(x, "off(0, 1, 1, 3)", x.off(0, 1, 1, 3), 5);
        taken(x, "off(0, 1, 1, 99)", x.off(0, 1, 1, 99));
        refused(x, "98 is gone", x.off(0, 1, 1, 98), 5);
    }

    private static void limits() {
        promise = 13;
        FlueHouse x = housed(ALL);
        for (int i = 0; i < 200; i++) {
            taken(x, "row " + i, x.row(0, 0, 0, i, 3));
        }
        refused(x, "row 201", x.row(0, 0, 0, 5, 3), 4);
        refused(x, "row 201: 4 ahead of 5", x.row(0, 0, 0, 5, 2), 4);
        refused(x, "row 201: 1 ahead of 4", x.row(0, 0, 0, 5, -1), 1);
        is("the latest row", x.at(0, 0, 0, 0), 199);
        promise = 15;
        for (int i = 0; i < 40; i++) {
            taken(x, "event " + i, i % 2 == 0 ? x.knock(1, 5, 3) : x.off(3, 0, 0, 3));
        }
        refused(x, "event 41", x.knock(1, 5, 3), 4);
        refused(x, "event 41: 4 ahead of 7", x.knock(0, 5, 2), 4);
        promise = 16;
        refused(x, "event 41: 4 ahead of 7", x.hole(0, 5, 5, 2), 4);
        promise = 17;
        refused(x, "event 41", x.off(0, 5, 5, 2), 4);
        plantText(x, ALL);
        taken(x, "events are gone with the plant", x.off(0, 5, 5, 3));
        promise = 13;
        taken(x, "rows are gone with the plant", x.row(0, 0, 0, 5, 3));
    }

    private static void asof() {
        promise = 18;
        FlueHouse x = housed("cloth c holds 100,100,100,100 full 9999; works w at c;");
        x.row(0, 0, 0, 50, 0);
        x.row(0, 0, 0, 100, 10);
        x.hole(0, 0, 20, 20);
        x.off(0, 0, 0, 99);
        refused(x, "asof(-1)", x.asof(-1), 1);
        refused(x, "asof(100)", x.asof(100), 1);
        is("as of 99 at first", x.up(0, 0), 100);
        taken(x, "asof(98)", x.asof(98));
        is("without being off", x.up(0, 0), 20);
        taken(x, "asof(19)", x.asof(19));
        is("without the hole", x.up(0, 0), 0);
        is("the later row", x.at(0, 0, 0, 0), 100);
        taken(x, "asof(9)", x.asof(9));
        is("the row ahead", x.at(0, 0, 0, 0), 50);
        taken(x, "asof(0)", x.asof(0));
        is("known by 0", x.at(0, 0, 0, 0), 50);
        refused(x, "asof does not bring back an hour", x.row(0, 0, 0, 1, 98), 5);
        plantText(x, "cyclone c holds 0,0,0,0; works w at c;");
        x.row(0, 0, 0, 5, 99);
        is("as of stays with a new plant", x.up(0, 0), 0);
    }

    private static void upAndAt() {
        promise = 19;
        FlueHouse x = housed("plates p holds 50, 50, 33, 0 layer 100 flies 25; works w at p;");
        x.row(0, 0, 0, 101, 0);
        x.row(0, 0, 2, 10, 0);
        x.row(0, 1, 0, 101, 0);
        x.row(0, 2, 0, 200, 0);
        x.row(0, 4, 3, 7, 0);
        refused(x, "up(-1, 0)", x.up(-1, 0), 1);
        refused(x, "up(48, 0)", x.up(48, 0), 1);
        refused(x, "up(0, -2)", x.up(0, -2), 1);
        refused(x, "up(0, 4)", x.up(0, 4), 1);
        taken(x, "up(0, 0): 50 of 101 is held, 50 left over", x.up(0, 0), 51);
        taken(x, "up(0, 2): 3 of 10 is held", x.up(0, 2), 7);
        taken(x, "up(0, NONE)", x.up(0, -1), 58);
        taken(x, "up(1, 0): 51 is held with what was left over", x.up(1, 0), 50);
        taken(x, "up(2, 0): the layer is 104, a quarter is held", x.up(2, 0), 150);
        taken(x, "up(3, NONE)", x.up(3, -1), 0);
        taken(x, "up(4, 3)", x.up(4, 3), 7);
        promise = 20;
        refused(x, "at of cleaner -1", x.at(-1, 0, 0, 0), 1);
        refused(x, "at of cleaner 1", x.at(1, 0, 0, 0), 1);
        refused(x, "at in -1", x.at(0, -1, 0, 0), 1);
        refused(x, "at in 48", x.at(0, 48, 0, 0), 1);
        refused(x, "at of size -2", x.at(0, 0, -2, 0), 1);
        refused(x, "at of size 4", x.at(0, 0, 4, 0), 1);
        refused(x, "at, what -1", x.at(0, 0, 0, -1), 1);
        refused(x, "at, what 5", x.at(0, 0, 0, 5), 1);
        taken(x, "layer behind 2", x.at(0, 2, 0, 3), 151);
        taken(x, "an earlier hour", x.at(0, 0, 0, 3), 50);
        taken(x, "layer of all sizes", x.at(0, 1, -1, 3), 104);
        taken(x, "comes of all sizes", x.at(0, 0, -1, 0), 111);
        taken(x, "held of all sizes", x.at(0, 0, -1, 1), 53);
        x.knock(0, 3, 1);
        x.knock(0, 3, 1);
        taken(x, "flies of size 0: 25 of 151", x.at(0, 3, 0, 2), 37);
        taken(x, "flies of size 2: 25 of 3", x.at(0, 3, 2, 2), 0);
        taken(x, "ash", x.at(0, 3, -1, 4), 114 + 3);
        taken(x, "ash later on", x.at(0, 47, -1, 4), 114 + 3);
        taken(x, "ash ahead", x.at(0, 2, -1, 4), 0);
        taken(x, "layer", x.at(0, 3, -1, 3), 0);
        taken(x, "flies in another hour", x.at(0, 4, -1, 2), 0);
        taken(x, "what flies is up", x.up(3, -1), 37);
    }

    private static void holdsAndWays() {
        promise = 20;
        FlueHouse x = housed("cloth c holds 60, 30, 0, 100 full 100; works w at c;");
        x.row(0, 0, 0, 100, 0);
        x.row(0, 0, 1, 100, 0);
        x.row(0, 1, 3, 10, 0);
        x.row(0, 2, 0, 10, 0);
        x.row(0, 3, 0, 10, 0);
        x.hole(0, 0, 20, 0);
        x.hole(0, 0, 15, 1);
        is("two holes of 35 hundredths", x.at(0, 0, 0, 1), 25);
        is("0 at least", x.at(0, 0, 1, 1), 0);
        is("holds less of size 3", x.at(0, 1, 3, 1), 6);
        x.asof(0);
        is("one hole", x.at(0, 0, 0, 1), 40);
        is("one hole, size 1", x.at(0, 0, 1, 1), 10);
        x.asof(99);
        x.row(0, 0, 3, 115, 1);
        is("25 and 74 are not full", x.at(0, 0, -1, 3), 99);
        is("not full: it holds", x.at(0, 1, 3, 1), 7);
        is("full", x.at(0, 1, -1, 3), 106);
        is("full: nothing is held", x.at(0, 2, 0, 1), 0);
        x.knock(0, 3, 1);
        is("knocked: all is ash, nothing flies", x.at(0, 3, -1, 4), 106);
        is("nothing flies", x.at(0, 3, -1, 2), 0);
        is("held again", x.at(0, 3, 0, 1), 2);
        x = housed("spray s holds 99, 0, 0, 0 warm 30; works w at s;");
        for (int hour = 0; hour < 4; hour++) {
            x.row(0, hour, 0, 10, 0);
        }
        x.warmth(1, 30);
        x.warmth(2, 29);
        is("spray: 990 by 100", x.at(0, 0, 0, 1), 9);
        is("too warm", x.at(0, 1, 0, 1), 0);
        is("the rest waits: 990 and 90", x.at(0, 2, 0, 1), 10);
        is("ash at once", x.at(0, 2, 0, 4), 19);
        is("no layer", x.at(0, 2, 0, 3), 0);
        x.off(0, 2, 3, 0);
        is("off, the first hour", x.at(0, 2, 0, 1), 0);
        is("off, the last hour", x.at(0, 3, 0, 1), 0);
        is("warm still", x.at(0, 1, 0, 1), 0);
        x.warmth(1, 0);
        is("cool now", x.at(0, 1, 0, 1), 10);
        promise = 19;
        x = housed("cyclone a holds 0,0,0,0; cyclone b holds 0,0,0,0; cyclone c holds 0,0,0,0; "
            + "join a to c share 33, stack share 33, b share 34; join b to c share 100; works w at a; works v at c;");
        x.row(0, 0, 0, 5, 0);
        x.row(1, 0, 0, 2, 0);
        is("rests 65, 65, 70: one to b, one to c", x.at(1, 0, 0, 0), 2);
        is("2, and 2 from b, and 2 of its own works", x.at(2, 0, 0, 0), 6);
        is("up: 1 at once, and 6", x.up(0, 0), 7);
        StringBuilder most = new StringBuilder();
        for (char c = 'a'; c <= 'h'; c++) {
            most.append("cloth ").append(c).append(" holds 10,0,0,0 full 9999;");
        }
        x = housed(most + "join a to stack share 30,h share 10,g share 10,f share 10,e share 10,d share 10,c share 10,"
            + "b share 10;works w at a;works v at h;works u at h;works t at h;");
        x.row(0, 47, 0, 1000, 0);
        x.row(3, 47, 0, 10, 0);
        is("270 by the first way", x.up(47, 0), 270 + 6 * 81 + 90);
        is("the eighth cleaner: 90 and 10", x.at(7, 47, 0, 0), 100);
        is("the eighth way: 90", x.at(1, 47, 0, 3), 9);
        taken(x, "knock of the eighth", x.knock(7, 47, 0));
        is("no layer yet", x.at(7, 47, 0, 4), 0);
        promise = 20;
        x = housed("plates p holds 51,51,51,51 layer 10 flies 100; works w at p;");
        x.row(0, 0, 0, 20, 0);
        x.row(0, 1, 0, 100, 0);
        x.row(0, 2, 0, 100, 0);
        x.off(0, 2, 2, 0);
        x.knock(0, 2, 0);
        is("half of 51, rounded down", x.at(0, 1, 0, 1), 25);
        is("off and knocked: all flies", x.at(0, 2, 0, 2), 35);
        is("off and knocked: up", x.up(2, 0), 135);
    }

    private static void whose() {
        promise = 21;
        FlueHouse x = housed("cyclone a holds 50,0,0,0; works w at a; works v at a; works u at a;");
        x.row(0, 0, 0, 1, 0);
        x.row(1, 0, 0, 1, 0);
        x.row(2, 0, 0, 1, 1);
        taken(x, "2 up, rests alike: the lesser", x.whose(0, 0, 0), 1);
        taken(x, "2 up", x.whose(1, 0, 0), 1);
        taken(x, "2 up", x.whose(2, 0, 0), 0);
        x.row(2, 0, 0, 9999, 2);
        x.row(1, 0, 0, 9998, 2);
        taken(x, "up", x.up(0, 0), 9999);
        taken(x, "up * 1 by 19998: a rest of 9999, and the lesser", x.whose(0, 0, 0), 1);
        taken(x, "up * 9998 by 19998", x.whose(1, 0, 0), 4999);
        taken(x, "up * 9999 by 19998: a rest of 9999, too", x.whose(2, 0, 0), 4999);
        x.asof(0);
        taken(x, "as of 0: 1 up of two", x.whose(0, 0, 0), 1);
        refused(x, "whose(-1, 0, 0)", x.whose(-1, 0, 0), 1);
        refused(x, "whose(3, 0, 0)", x.whose(3, 0, 0), 1);
        refused(x, "whose(0, -1, 0)", x.whose(0, -1, 0), 1);
        refused(x, "whose(0, 48, 0)", x.whose(0, 48, 0), 1);
        refused(x, "whose(0, 0, -1)", x.whose(0, 0, -1), 1);
        refused(x, "whose(0, 0, 4)", x.whose(0, 0, 4), 1);
        x = housed("plates p holds 100,0,0,0 layer 9 flies 100; works w at p;");
        x.row(0, 0, 0, 9, 0);
        x.knock(0, 1, 0);
        is("up that is nobody's", x.up(1, 0), 9);
        taken(x, "nobody's", x.whose(0, 1, 0), 0);
    }

    private static void broken() {
        promise = 22;
        FlueHouse x = housed("cyclone a holds 0,0,0,0; works w at a;");
        for (int size = 0; size < 4; size++) {
            x.row(0, 2, size, 10 + size, 0);
            x.row(0, 3, size, 1, 0);
        }
        x.warmth(2, 7);
        is("laws", lawsText(x, "a: fine * 1000 + small * 100 - coarse * (grit - 2) over 1 below 2;"
            + "b: warmth + hour over 2 below 6; c: fine - 9 - 1 over 1 below 0; d: 1-9999 over 1 below 0;"), 4);
        taken(x, "10000 + 1100 - 12 * 11", x.broken(0, 2), 1);
        taken(x, "1000 + 100 + 1", x.broken(0, 3), 1);
        taken(x, "0", x.broken(0, 4), 0);
        taken(x, "warmth 7, hours 1 and 2: 10 is below 12", x.broken(1, 2), 0);
        taken(x, "7 and 5: 12", x.broken(1, 3), 1);
        x.warmth(2, 6);
        taken(x, "6 and 5: 11", x.broken(1, 3), 0);
        x.warmth(2, 7);
        taken(x, "hour 0 has fewer ahead", x.broken(1, 0), 0);
        taken(x, "left to right: 0", x.broken(2, 2), 1);
        taken(x, "below 0", x.broken(2, 3), 0);
        taken(x, "below 0", x.broken(3, 47), 0);
        refused(x, "broken(-1, 0)", x.broken(-1, 0), 1);
        refused(x, "broken(4, 0)", x.broken(4, 0), 1);
        refused(x, "broken(0, -1)", x.broken(0, -1), 1);
        refused(x, "broken(0, 48)", x.broken(0, 48), 1);
        String big = "9999*9999*9999*9999";
        lawsText(x, "a:" + big + "*9999 over 1 below 0; b:" + big + "*922 over 1 below 0; c:" + big
            + "*923 over 1 below 0;d:1 over 24 below 1;");
        is("round on", x.broken(0, 0), 9999L * 9999 * 9999 * 9999 * 9999 >= 0 ? 1 : 0);
        is("not yet round", x.broken(1, 0), 1);
        is("round once", x.broken(2, 0), 9999L * 9999 * 9999 * 9999 * 923 >= 0 ? 1 : 0);
        String much = "l:" + "hour+".repeat(80) + "1 over 1 below 81;";
        x = new FlueHouse();
        for (int i = 0; i < 12; i++) {
            is("a long law, time and again", lawsText(x, much), 1);
            is("hour 0: 1", x.broken(0, 0), 0);
            is("hour 1: 81", x.broken(0, 1), 1);
        }
        lawsText(x, "a:1 over 1 below 1;b:0 over 1 below 1;c:0 over 1 below 1;d:1 over 24 below 1;");
        is("22 ahead", x.broken(3, 22), 0);
        is("23 ahead", x.broken(3, 23), 1);
    }

    private static void breach() {
        promise = 23;
        FlueHouse x = housed("cyclone a holds 0,0,0,0; works w at a;");
        refused(x, "breach(0) without laws", x.breach(0), 6);
        refused(x, "breach(-1)", x.breach(-1), 1);
        refused(x, "breach(2)", x.breach(2), 1);
        lawsText(x, "a: hour over 1 below 48; b: fine over 3 below 10; c: fine over 1 below 20;d:fine over 1 below 9;");
        refused(x, "none is broken", x.breach(1), 6);
        x.row(0, 5, 0, 8, 0);
        x.row(0, 6, 0, 8, 0);
        x.row(0, 7, 0, 14, 0);
        taken(x, "the first hour", x.breach(0), 7);
        taken(x, "the first law of it", x.breach(1), 1);
        x.row(0, 6, 0, 9, 1);
        taken(x, "a later law in an earlier hour", x.breach(0), 6);
        taken(x, "its law", x.breach(1), 3);
        x.asof(0);
        taken(x, "as of 0", x.breach(1), 1);
        lawsText(x, "a: hour over 24 below 35;");
        is("over 24: hours 24 to 47 are 35.5 each", x.breach(0), 47);
    }

    private static void torn() {
        promise = 24;
        FlueHouse x = housed("cloth c holds 100,0,0,0 full 9999; cloth d holds 100,0,0,0 full 9999;"
            + "works w at c; works v at d;");
        for (int hour = 0; hour < 4; hour++) {
            x.row(0, hour, 0, 100, 0);
            x.row(1, hour, 0, 100, 0);
        }
        refused(x, "torn(-1, 0, 1, 0)", x.torn(-1, 0, 1, 0), 1);
        refused(x, "torn(4, 0, 1, 0)", x.torn(4, 0, 1, 0), 1);
        refused(x, "torn(0, -1, 1, 0)", x.torn(0, -1, 1, 0), 1);
        refused(x, "torn(0, 48, 1, 0)", x.torn(0, 48, 1, 0), 1);
        refused(x, "torn(0, 0, 0, 0)", x.torn(0, 0, 0, 0), 1);
        refused(x, "torn(0, 0, 25, 0)", x.torn(0, 0, 25, 0), 1);
        refused(x, "torn(0, 47, 2, 0)", x.torn(0, 47, 2, 0), 1);
        refused(x, "torn(0, 0, 1, -1)", x.torn(0, 0, 1, -1), 1);
        refused(x, "torn(0, 0, 1, 1001)", x.torn(0, 0, 1, 1001), 1);
        refused(x, "a missing tray", x.torn(0, 0, 1, 0), 2);
        fill(x, 0, 3, 0, 30, 30, 30);
        refused(x, "too few", x.torn(0, 0, 5, 0), 3);
        promise = 25;
        refused(x, "no torn()", x.tornTold(0), 6);
        refused(x, "tornTold(-1)", x.tornTold(-1), 1);
        refused(x, "tornTold(3)", x.tornTold(3), 1);
        promise = 24;
        taken(x, "a hole in either", x.torn(0, 0, 4, 0), 2);
        promise = 25;
        taken(x, "the first cloth", x.tornTold(0), 0);
        taken(x, "the hour", x.tornTold(1), 1);
        taken(x, "the hundredths", x.tornTold(2), 30);
        promise = 24;
        taken(x, "apart by 10: 20, 30 or 40", x.torn(0, 0, 4, 10), 6);
        taken(x, "apart by 9", x.torn(0, 0, 4, 9), 2);
        taken(x, "hours 1 to 4: 3 from 0 on, 3 from 1 on, 6, 6, 10", x.torn(0, 1, 4, 30), 2 * 28);
        taken(x, "hour 4 differs by 30", x.torn(0, 1, 4, 29), 0);
        promise = 25;
        refused(x, "none fits", x.tornTold(0), 6);
        promise = 24;
        fill(x, 1, 3, 30, 30);
        taken(x, "hours 2 and 3: from 0, 1 or 2", x.torn(1, 2, 2, 0), 6);
        taken(x, "hours 46 and 47: nothing is up ever", x.torn(1, 46, 2, 29), 0);
        fill(x, 1, 3, 0, 0);
        taken(x, "hours 46 and 47, 0: all holes fit", x.torn(1, 46, 2, 0), 2 * 48 * 10);
        is("the first", x.tornTold(0) * 1000 + x.tornTold(1) * 100 + x.tornTold(2), 10);
        fill(x, 1, 3, Long.MIN_VALUE);
        taken(x, "far apart", x.torn(1, 0, 1, 1000), 0);
        fill(x, 1, 3, Long.MAX_VALUE);
        taken(x, "far apart", x.torn(1, 0, 1, 1000), 0);
        refused(x, "wrong", x.torn(1, 0, 2, 1000), 3);
        x.hole(0, 2, 30, 5);
        fill(x, 1, 0, 0, 0, 40);
        taken(x, "one hole more", x.torn(1, 0, 3, 0), 2);
        taken(x, "told", x.tornTold(1), 2);
        taken(x, "told", x.tornTold(2), 10);
        refused(x, "a torn() that is refused", x.torn(1, 0, 3, -1), 1);
        taken(x, "told still", x.tornTold(2), 10);
        x.asof(4);
        taken(x, "as of 4", x.torn(1, 0, 3, 0), 2);
        taken(x, "told", x.tornTold(2), 40);
        taken(x, "a plant without cloths", plantText(x, "cyclone a holds 1,1,1,1;"), 1);
        taken(x, "none", x.torn(1, 0, 1, 1000), 0);
    }

    private static void knocks() {
        promise = 26;
        FlueHouse x = housed("plates p holds 100,0,0,0 layer 10 flies 0; cyclone a holds 0,0,0,0;"
            + "cloth c holds 100,0,0,0 full 10; works w at p; works v at c;");
        for (int hour = 0; hour < 6; hour++) {
            x.row(0, hour, 0, 10, 0);
        }
        refused(x, "knocks of -1", x.knocks(-1, 0, 1, 1, 5), 1);
        refused(x, "knocks of 3", x.knocks(3, 0, 1, 1, 5), 1);
        refused(x, "knocks, tray -1", x.knocks(0, -1, 1, 1, 5), 1);
        refused(x, "knocks, tray 4", x.knocks(0, 4, 1, 1, 5), 1);
        refused(x, "knocks, 0 hours", x.knocks(0, 0, 0, 0, 5), 1);
        refused(x, "knocks, 7 hours", x.knocks(0, 0, 7, 1, 5), 1);
        refused(x, "knocks, -1", x.knocks(0, 0, 1, -1, 5), 1);
        refused(x, "knocks, 2 of 1", x.knocks(0, 0, 1, 2, 5), 1);
        refused(x, "knocks to -1", x.knocks(0, 0, 1, 1, -1), 1);
        refused(x, "knocks to 48", x.knocks(0, 0, 1, 1, 48), 1);
        refused(x, "a missing tray ahead of 7", x.knocks(1, 0, 1, 1, 5), 2);
        fill(x, 0, 0, 4, 2, 40, 2, 48, -1, 1);
        refused(x, "too few", x.knocks(1, 0, 6, 1, 5), 1);
        x.tray(1, 0, 2);
        refused(x, "too few ahead of 7", x.knocks(1, 1, 3, 1, 5), 3);
        refused(x, "two alike ahead of 7", x.knocks(1, 1, 2, 1, 5), 1);
        refused(x, "two alike", x.knocks(0, 0, 4, 1, 5), 1);
        promise = 27;
        refused(x, "knockSet() ahead of any", x.knockSet(), 6);
        promise = 26;
        fill(x, 1, 0, 48);
        refused(x, "hour 48", x.knocks(0, 1, 1, 1, 5), 1);
        fill(x, 1, 0, 47);
        taken(x, "hour 47", x.knocks(0, 1, 1, 1, 5), 25);
        fill(x, 1, 0, -1);
        refused(x, "hour -1", x.knocks(0, 1, 1, 1, 5), 1);
        refused(x, "another sort", x.knocks(1, 0, 3, 1, 5), 7);
        taken(x, "none: 5 times 5", x.knocks(0, 0, 3, 0, 5), 25);
        promise = 27;
        taken(x, "the empty set", x.knockSet(), 0);
        promise = 26;
        taken(x, "one of 4, 2, 40", x.knocks(0, 0, 3, 1, 5), 20);
        promise = 27;
        taken(x, "the first", x.knockSet(), 1);
        promise = 26;
        taken(x, "two of them, 40 does not help", x.knocks(0, 0, 3, 3, 5), 15);
        promise = 27;
        taken(x, "the fewest", x.knockSet(), 3);
        promise = 26;
        taken(x, "to 3", x.knocks(0, 0, 3, 3, 3), 10);
        promise = 27;
        taken(x, "the second", x.knockSet(), 2);
        refused(x, "refused", x.knocks(0, 0, 3, 3, 48), 1);
        taken(x, "as it was", x.knockSet(), 2);
        promise = 26;
        fill(x, 2, 1, 5, 1, 2, 40);
        x.knock(0, 5, 1);
        x.knock(0, 1, 1);
        x.knock(0, 2, 1);
        taken(x, "knocked already", x.knocks(0, 2, 4, 4, 5), 10);
        is("none is needed", x.knockSet(), 0);
        x.asof(0);
        x.row(1, 0, 0, 10, 2);
        taken(x, "as of 0", x.knocks(0, 2, 4, 4, 5), 10);
        is("all but 40", x.knockSet(), 7);
        x.asof(99);
        x.row(1, 9, 0, 10, 2);
        fill(x, 3, 3, 40, 9);
        taken(x, "a cloth that is full", x.knocks(2, 3, 2, 0, 47), 20);
        taken(x, "a cloth that is knocked", x.knocks(2, 3, 2, 1, 47), 10);
        is("its set", x.knockSet(), 2);
        x = housed("cloth c holds 100,0,0,0 full 10; works w at c;");
        int[] dust = {4, 4, 4, 6, 6};
        for (int hour = 0; hour < 5; hour++) {
            x.row(0, hour, 0, dust[hour], 0);
        }
        fill(x, 0, 0, 2, 4, 3);
        taken(x, "2 and 4 together, or 3 alone", x.knocks(0, 0, 3, 3, 4), 0);
        is("the fewest", x.knockSet(), 4);
        fill(x, 1, 2, 0, 0, 0, 6, 6);
        promise = 24;
        taken(x, "torn() knows nothing of them: full in 3 and 4 with holes from 3 or 4 on", x.torn(1, 0, 5, 0), 20);
        fill(x, 1, 2, 2, 2, 2, 3, 3);
        taken(x, "a hole of 50 from 0 on", x.torn(1, 0, 5, 0), 1);
        promise = 26;
        taken(x, "knocks() knows nothing of it", x.knocks(0, 0, 3, 0, 4), 12);
    }

    private static void rowOf() {
        promise = 28;
        FlueHouse x = new FlueHouse();
        refused(x, "rowOf(-1, 1, 1, 0)", x.rowOf(-1, 1, 1, 0), 1);
        refused(x, "rowOf(4, 1, 1, 0)", x.rowOf(4, 1, 1, 0), 1);
        refused(x, "rowOf(0, 0, 1, 0)", x.rowOf(0, 0, 1, 0), 1);
        refused(x, "rowOf(0, 8, 1, 0)", x.rowOf(0, 8, 1, 0), 1);
        refused(x, "rowOf(0, 1, -1, 0)", x.rowOf(0, 1, -1, 0), 1);
        refused(x, "rowOf(0, 1, 4, 0)", x.rowOf(0, 1, 4, 0), 1);
        refused(x, "rowOf(0, 1, 1, -1)", x.rowOf(0, 1, 1, -1), 1);
        refused(x, "rowOf(0, 1, 1, 40001)", x.rowOf(0, 1, 1, 40001), 1);
        refused(x, "missing cleaners", x.rowOf(0, 1, 1, 0), 2);
        fill(x, 0, 1, 50, 0, 0, 0, 5, 50, 0, 0, 0, 5, 75, 0, 0, 0, 10, 90, 100, 100, 100, 1000);
        refused(x, "missing portions", x.rowOf(0, 1, 1, 0), 2);
        fill(x, 1, 2, 9, 0, 0);
        refused(x, "too few portions", x.rowOf(0, 1, 1, 0), 3);
        fill(x, 1, 2, 100, 0, 0, 0, -5);
        refused(x, "too few cleaners", x.rowOf(0, 5, 1, 0), 3);
        promise = 29;
        refused(x, "rowAt(0) ahead of any", x.rowAt(0), 6);
        promise = 28;
        taken(x, "none is needed", x.rowOf(0, 4, 1, 100), 0);
        promise = 29;
        refused(x, "rowAt(0) of none", x.rowAt(0), 6);
        promise = 28;
        taken(x, "of two alike the first", x.rowOf(0, 4, 1, 50), 5);
        is("rowAt(0)", x.rowAt(0), 0);
        taken(x, "of one cost the shortest", x.rowOf(0, 4, 1, 25), 10);
        is("rowAt(0)", x.rowAt(0), 2);
        promise = 29;
        refused(x, "rowAt(1)", x.rowAt(1), 6);
        refused(x, "rowAt(-1)", x.rowAt(-1), 1);
        refused(x, "rowAt(MAX)", x.rowAt(Integer.MAX_VALUE), 6);
        promise = 28;
        taken(x, "rounding: 100, 50, 25, 7", x.rowOf(0, 4, 1, 7), 20);
        is("rowAt(0)", x.rowAt(0), 0);
        is("rowAt(1)", x.rowAt(1), 1);
        is("rowAt(2)", x.rowAt(2), 2);
        taken(x, "100, 50, 13, 2", x.rowOf(0, 4, 1, 2), 1015);
        is("rowAt(1)", x.rowAt(1), 2);
        taken(x, "four: 1 is left", x.rowOf(0, 4, 1, 1), 1020);
        is("rowAt(3)", x.rowAt(3), 3);
        refused(x, "none lets pass so few", x.rowOf(0, 4, 1, 0), 6);
        promise = 29;
        is("rowAt(3) as it was", x.rowAt(3), 3);
        promise = 28;
        fill(x, 2, 2, 7, 0, 0, 0);
        fill(x, 3, 0, 50, 0, 0, 0, 1, 75, 0, 0, 0, 1);
        taken(x, "7, 4 (of 50), 1; 7, 2 (of 75), 1", x.rowOf(3, 2, 2, 1), 2);
        is("the lesser first", x.rowAt(0), 0);
        fill(x, 2, 2, 3, 0, 0, 0);
        taken(x, "3, 2, 1; but 3, 1, 1", x.rowOf(3, 2, 2, 1), 1);
        fill(x, 3, 1, 101, 0, 0, 0, 1);
        refused(x, "holds 101", x.rowOf(3, 1, 2, 1), 1);
        fill(x, 3, 1, 0, 0, 0, -1, 1);
        refused(x, "holds -1", x.rowOf(3, 1, 2, 1), 1);
        fill(x, 3, 1, 0, 0, 0, 0, 1001);
        refused(x, "costs 1001", x.rowOf(3, 1, 2, 1), 1);
        fill(x, 3, 1, 0, 0, 0, 0, -1);
        refused(x, "costs -1", x.rowOf(3, 1, 2, 1), 1);
        fill(x, 3, 1, 0, 0, 0, 0, 1000);
        fill(x, 2, 2, 0, 0, 0, 10000);
        refused(x, "10000 portions", x.rowOf(3, 1, 2, 40000), 1);
        fill(x, 2, 2, 0, -1, 0, 0);
        refused(x, "-1 portions", x.rowOf(3, 1, 2, 40000), 1);
        fill(x, 2, 2, 9999, 9999, 9999, 9999);
        taken(x, "most portions", x.rowOf(3, 1, 2, 40000), 0);
        fill(x, 3, 3, 10, 0, 0, 0, 1, 10, 0, 0, 0, 1, 10, 0, 0, 0, 1, 10, 0, 0, 0, 1, 10, 0, 0, 0, 1);
        fill(x, 2, 2, 10000 - 1, 0, 0, 0);
        refused(x, "four at most", x.rowOf(3, 5, 2, 6000), 6);
        taken(x, "9999, 9000, 8100, 7290, 6561", x.rowOf(3, 5, 2, 6561), 4);
    }

    private static void air() {
        promise = 30;
        FlueHouse x = new FlueHouse();
        refused(x, "air(-1, 1, 1, 0)", x.air(-1, 1, 1, 0), 1);
        refused(x, "air(4, 1, 1, 0)", x.air(4, 1, 1, 0), 1);
        refused(x, "air(0, 0, 1, 0)", x.air(0, 0, 1, 0), 1);
        refused(x, "air(0, 9, 1, 0)", x.air(0, 9, 1, 0), 1);
        refused(x, "air(0, 1, -1, 0)", x.air(0, 1, -1, 0), 1);
        refused(x, "air(0, 1, 201, 0)", x.air(0, 1, 201, 0), 1);
        refused(x, "air(0, 1, 1, -1)", x.air(0, 1, 1, -1), 1);
        refused(x, "air(0, 1, 1, 1)", x.air(0, 1, 1, 1), 1);
        refused(x, "a missing tray", x.air(0, 1, 1, 0), 2);
        fill(x, 0, 0, 1, 4, 1, 101, 0, 100);
        refused(x, "too few", x.air(0, 7, 1, 0), 3);
        refused(x, "hindrance 101", x.air(0, 4, 1, 0), 1);
        fill(x, 1, 0, 1, 0);
        refused(x, "hindrance 0", x.air(1, 2, 1, 0), 1);
        taken(x, "1 to the first", x.air(0, 3, 1, 0), 1);
        taken(x, "2: one to the third", x.air(0, 3, 2, 2), 1);
        taken(x, "3: 4, 4, 4, so to the first", x.air(0, 3, 3, 0), 2);
        taken(x, "4: to the second", x.air(0, 3, 4, 1), 1);
        taken(x, "4: not to the third", x.air(0, 3, 4, 2), 1);
        taken(x, "none", x.air(0, 3, 0, 0), 0);
        fill(x, 2, 3, 100);
        taken(x, "all", x.air(2, 1, 200, 0), 200);
        fill(x, 2, 3, 1, 1, 1, 1, 1, 1, 1, 1);
        taken(x, "200 by 8", x.air(2, 8, 200, 7), 25);
    }

    private static void gauge() {
        promise = 31;
        FlueHouse x = new FlueHouse();
        refused(x, "gauge(-1, 1, 1, 0)", x.gauge(-1, 1, 1, 0), 1);
        refused(x, "gauge(0, 4, 1, 0)", x.gauge(0, 4, 1, 0), 1);
        refused(x, "gauge(0, 1, 0, 0)", x.gauge(0, 1, 0, 0), 1);
        refused(x, "gauge(0, 1, 11, 0)", x.gauge(0, 1, 11, 0), 1);
        refused(x, "gauge(0, 1, 1, -1)", x.gauge(0, 1, 1, -1), 1);
        refused(x, "gauge(0, 1, 1, 1001)", x.gauge(0, 1, 1, 1001), 1);
        refused(x, "missing light", x.gauge(0, 1, 1, 0), 2);
        fill(x, 0, 1, 10, 0, 999, -1);
        refused(x, "missing drawn", x.gauge(0, 1, 1, 0), 2);
        fill(x, 1, 2, 700, 100, 59940 + 100, 0, 5);
        refused(x, "too few lights", x.gauge(0, 1, 5, 0), 3);
        refused(x, "too few drawn", x.gauge(1, 0, 5, 0), 3);
        refused(x, "light -1", x.gauge(0, 1, 4, 0), 1);
        promise = 32;
        refused(x, "no gauge()", x.gaugeTold(0, 0), 6);
        promise = 31;
        taken(x, "the line 60 and 100", x.gauge(0, 1, 3, 0), 1);
        promise = 32;
        taken(x, "told for 7", x.gaugeTold(7, 0), 520);
        taken(x, "told for 999", x.gaugeTold(999, 1), 60040);
        taken(x, "told for 0", x.gaugeTold(0, 1), 100);
        refused(x, "gaugeTold(-1, 0)", x.gaugeTold(-1, 0), 1);
        refused(x, "gaugeTold(1000, 0)", x.gaugeTold(1000, 0), 1);
        refused(x, "gaugeTold(0, -1)", x.gaugeTold(0, -1), 1);
        refused(x, "gaugeTold(0, 2)", x.gaugeTold(0, 2), 1);
        promise = 31;
        taken(x, "one light, drawn 700: a from 0 to 70", x.gauge(0, 1, 1, 0), 71);
        promise = 32;
        taken(x, "for 20 the least: 0 and 700", x.gaugeTold(20, 0), 700);
        taken(x, "for 20 the most: 70 and 0", x.gaugeTold(20, 1), 1400);
        promise = 31;
        refused(x, "refused", x.gauge(0, 1, 4, 0), 1);
        promise = 32;
        taken(x, "told still", x.gaugeTold(20, 1), 1400);
        promise = 31;
        fill(x, 2, 2, 0);
        fill(x, 3, 2, 99999);
        taken(x, "b is 999 at most", x.gauge(2, 3, 1, 1000), 0);
        promise = 32;
        refused(x, "none fits", x.gaugeTold(0, 0), 6);
        promise = 31;
        fill(x, 3, 2, 100000);
        refused(x, "drawn 100000", x.gauge(2, 3, 1, 1000), 1);
        fill(x, 3, 2, -1);
        refused(x, "drawn -1", x.gauge(2, 3, 1, 1000), 1);
        fill(x, 2, 2, 1000);
        fill(x, 3, 2, 0);
        refused(x, "light 1000", x.gauge(2, 3, 1, 1000), 1);
        taken(x, "all lines", x.gauge(3, 3, 1, 1000), 100000);
        promise = 32;
        taken(x, "the least of all", x.gaugeTold(999, 0), 0);
        taken(x, "the most of all", x.gaugeTold(999, 1), 99 * 999 + 999);
    }
}
