import java.nio.charset.StandardCharsets;
import java.util.function.IntPredicate;
import java.util.function.IntToLongFunction;

/** What the tests of the document's sentences share: answers that are due, texts on the tape, numbers in trays. */
final class Due {
    private static final int[] FAR = {Integer.MIN_VALUE, Integer.MIN_VALUE + 1, Integer.MAX_VALUE - 1, Integer.MAX_VALUE};
    private static String sentence = "no sentence yet";
    private static int wrong = 0;
    private static int sentences = 0;

    private Due() {
    }

    /** The sentence of the document, word for word, that the checks behind this call are about. */
    static void says(String section, String words) {
        sentence = section + ", \"" + words + "\"";
        sentences++;
    }

    static void is(String what, long got, long want) {
        if (got != want) {
            wrong++;
            System.out.println(sentence + ": " + what + " answered " + got + ", due is " + want);
        }
    }

    static void is(String what, boolean got, boolean want) {
        is(what, got ? 1 : 0, want ? 1 : 0);
    }

    static void fine(FlueHouse x, String what, long got, long want) {
        is(what, got, want);
        is("status() behind " + what, x.status(), 0);
    }

    static void fine(FlueHouse x, String what, boolean got) {
        is(what, got, true);
        is("status() behind " + what, x.status(), 0);
    }

    static void refused(FlueHouse x, String what, long got, int status) {
        is(what, got, FlueHouse.NONE);
        is("status() behind " + what, x.status(), status);
    }

    static void refused(FlueHouse x, String what, boolean got, int status) {
        is(what, got, false);
        is("status() behind " + what, x.status(), status);
    }

    /** A call that answers a number is fine with both bounds, and refused with 1 right outside them and far away. */
    static void numberWithin(FlueHouse x, String what, int least, int most, IntToLongFunction call) {
        for (int v : new int[] {least, most}) {
            call.applyAsLong(v);
            is("status() behind " + what + " " + v, x.status(), 0);
        }
        refused(x, what + " " + (least - 1), call.applyAsLong(least - 1), 1);
        refused(x, what + " " + (most + 1), call.applyAsLong(most + 1), 1);
        for (int v : FAR) {
            refused(x, what + " " + v, call.applyAsLong(v), 1);
        }
    }

    /** The same of a call that answers true or false. */
    static void flagWithin(FlueHouse x, String what, int least, int most, IntPredicate call) {
        fine(x, what + " " + least, call.test(least));
        fine(x, what + " " + most, call.test(most));
        refused(x, what + " " + (least - 1), call.test(least - 1), 1);
        refused(x, what + " " + (most + 1), call.test(most + 1), 1);
        for (int v : FAR) {
            refused(x, what + " " + v, call.test(v), 1);
        }
    }

    static int feed(FlueHouse x, String text) {
        byte[] bytes = text.getBytes(StandardCharsets.ISO_8859_1);
        for (int i = 0; i < bytes.length; i += 20) {
            int[] five = new int[5];
            for (int k = 0; k < 20; k++) {
                int b = i + k < bytes.length ? bytes[i + k] & 255 : 0;
                five[k / 4] |= b << (24 - k % 4 * 8);
            }
            if (x.feed(five[0], five[1], five[2], five[3], five[4]) == FlueHouse.NONE) {
                is("feed() of a text of " + bytes.length + " bytes", FlueHouse.NONE, i + 20);
            }
        }
        return bytes.length;
    }

    static int plant(FlueHouse x, String text) {
        return x.plant(feed(x, text));
    }

    static int laws(FlueHouse x, String text) {
        return x.laws(feed(x, text));
    }

    static FlueHouse rightPlant(int cleaners, String text) {
        FlueHouse x = new FlueHouse();
        fine(x, "plant() of " + text, plant(x, text), cleaners);
        is("fault(0) of " + text, x.fault(0), 0);
        is("fault(1) of " + text, x.fault(1), FlueHouse.NONE);
        return x;
    }

    /** A ^ in the text marks the place of its fault, and is no part of it. */
    static void wrongPlant(int kind, String marked) {
        FlueHouse x = new FlueHouse();
        refused(x, "plant() of " + marked, plant(x, unmarked(marked)), 9);
        faultIs(x, kind, marked);
    }

    static FlueHouse rightLaws(int many, String text) {
        FlueHouse x = new FlueHouse();
        fine(x, "laws() of " + text, laws(x, text), many);
        is("fault(0) of " + text, x.fault(0), 0);
        is("fault(1) of " + text, x.fault(1), FlueHouse.NONE);
        return x;
    }

    static void wrongLaws(int kind, String marked) {
        FlueHouse x = new FlueHouse();
        refused(x, "laws() of " + marked, laws(x, unmarked(marked)), 9);
        faultIs(x, kind, marked);
    }

    private static String unmarked(String marked) {
        return marked.replace("^", "");
    }

    private static void faultIs(FlueHouse x, int kind, String marked) {
        is("fault(0) of " + marked, x.fault(0), kind);
        is("fault(1) of " + marked, x.fault(1), marked.indexOf('^'));
    }

    static void fill(FlueHouse x, int tray, int sort, long... numbers) {
        x.tray(tray, sort, numbers.length);
        for (int i = 0; i < numbers.length; i++) {
            x.write(tray, i, numbers[i]);
        }
    }

    static void end() {
        System.out.println(wrong == 0 ? sentences + " sentences hold" : wrong + " answers are not as due");
        if (wrong != 0) {
            System.exit(1);
        }
    }
}
