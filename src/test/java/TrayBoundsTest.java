/** The edges of a new object and of the trays: promises 1 to 6. */
public final class TrayBoundsTest {
    private static final String TERMS = "Terms";

    private TrayBoundsTest() {
    }

    public static void main(String[] args) {
        newObject();
        statusOfTheLatest();
        whichTrays();
        howManyNumbers();
        sortsOfNumbers();
        zeros();
        cutToSort();
        places();
        statusesOfWrite();
        numberInAPlace();
        statusesOfRead();
        noneAndMinusOne();
        pourEdges();
        pourOntoItself();
        pourOrder();
        Due.end();
    }

    private static void newObject() {
        Due.says(TERMS, "The constants: `NONE = -1`: None.");
        Due.is("NONE", FlueHouse.NONE, -1);
        Due.says("Promise 1", "No PLANT");
        FlueHouse x = new FlueHouse();
        Due.refused(x, "cleaner(0, 0)", x.cleaner(0, 0), 1);
        Due.refused(x, "works(0)", x.works(0), 1);
        Due.fine(x, "up(0, NONE)", x.up(0, FlueHouse.NONE), 0);
        Due.fine(x, "up(47, NONE)", x.up(47, FlueHouse.NONE), 0);
        Due.says("Promise 1", "no LAWS");
        Due.refused(x, "broken(0, 0)", x.broken(0, 0), 1);
        Due.refused(x, "breach(0)", x.breach(0), 6);
        Due.says("Promise 1", "TRAYS are MISSING");
        for (int tray = 0; tray < 4; tray++) {
            Due.refused(x, "read(" + tray + ", 0)", x.read(tray, 0), 2);
            Due.refused(x, "write(" + tray + ", 0, 1)", x.write(tray, 0, 1), 2);
        }
        Due.says("Promise 1", "an empty tape");
        x = new FlueHouse();
        Due.refused(x, "plant(1)", x.plant(1), 1);
        Due.refused(x, "laws(1)", x.laws(1), 1);
        Due.fine(x, "plant(0)", x.plant(0), 0);
        Due.fine(x, "laws(0)", x.laws(0), 0);
        Due.is("the first feed()", x.feed(0, 0, 0, 0, 0), 20);
        Due.says("Promise 1", "AS OF 99");
        x = Due.rightPlant(1, "cyclone a holds 0,0,0,0; works w at a;");
        x.row(0, 0, 0, 7, 98);
        x.row(0, 0, 0, 9, 99);
        Due.fine(x, "up(0, 0) of a row known by 99", x.up(0, 0), 9);
        Due.says("Promise 1", "STATUS 0.");
        Due.is("status() of a new object", new FlueHouse().status(), 0);
    }

    private static void statusOfTheLatest() {
        Due.says("Promise 2", "STATUS of the latest call that has one.");
        FlueHouse x = new FlueHouse();
        x.read(0, 0);
        Due.is("status() behind a refused call", x.status(), 2);
        Due.is("status() behind status()", x.status(), 2);
        x.read(4, 0);
        Due.is("status() behind another refused call", x.status(), 1);
        x.up(0, 0);
        Due.is("status() behind a fine call", x.status(), 0);
        Due.says(TERMS, "status(), feed(), fault() have none.");
        x.read(0, 0);
        x.feed(0, 0, 0, 0, 0);
        Due.is("status() behind feed()", x.status(), 2);
        x.fault(0);
        x.fault(7);
        Due.is("status() behind fault()", x.status(), 2);
        x.up(0, 0);
        for (int i = 0; i < 30; i++) {
            x.feed(0, 0, 0, 0, 0);
        }
        Due.is("a feed() that is too much", x.feed(0, 0, 0, 0, 0), FlueHouse.NONE);
        Due.is("status() behind it", x.status(), 0);
    }

    private static void whichTrays() {
        Due.says(TERMS, "TRAYS 0 to 3 are MISSING at first");
        FlueHouse x = new FlueHouse();
        Due.refused(x, "read(3, 0) of a new object", x.read(3, 0), 2);
        Due.flagWithin(x, "tray() of tray", 0, 3, v -> x.tray(v, 3, 60));
        x.tray(1, 3, 60);
        x.tray(2, 3, 60);
        Due.flagWithin(x, "write() to tray", 0, 3, v -> x.write(v, 0, 1));
        Due.numberWithin(x, "read() of tray", 0, 3, v -> x.read(v, 0));
        Due.flagWithin(x, "pour() from tray", 0, 3, v -> x.pour(v, 0, 0, 0, 1));
        Due.flagWithin(x, "pour() to tray", 0, 3, v -> x.pour(0, 0, v, 0, 1));
        Due.says("Promise 3", "(1)");
        FlueHouse y = new FlueHouse();
        Due.refused(y, "tray(4, 0, 1)", y.tray(4, 0, 1), 1);
        Due.refused(y, "tray(0, 4, 1)", y.tray(0, 4, 1), 1);
        Due.refused(y, "tray(0, 0, 61)", y.tray(0, 0, 61), 1);
        Due.refused(y, "read(0, 0): it is missing still", y.read(0, 0), 2);
    }

    private static void howManyNumbers() {
        Due.says(TERMS, "or rows of 0 to 60 numbers");
        FlueHouse x = new FlueHouse();
        Due.flagWithin(x, "tray() of numbers", 0, 60, v -> x.tray(0, 3, v));
        x.tray(0, 3, 60);
        for (int place = 0; place < 60; place++) {
            Due.fine(x, "write()", x.write(0, place, 1000 + place));
        }
        for (int place = 0; place < 60; place++) {
            Due.fine(x, "read(0, " + place + ")", x.read(0, place), 1000 + place);
        }
        x.tray(1, 3, 0);
        Due.refused(x, "read() of a row of none", x.read(1, 0), 3);
        Due.refused(x, "write() to a row of none", x.write(1, 0, 1), 3);
        x.tray(1, 3, 1);
        Due.fine(x, "read() of a row of one", x.read(1, 0), 0);
        Due.refused(x, "read() behind it", x.read(1, 1), 3);
        Due.fine(x, "the tray ahead has all of its own", x.read(0, 59), 1059);
    }

    private static void sortsOfNumbers() {
        Due.says(TERMS, "numbers of 8 bits (sort 0), 16 (1), 32 (2) or 64 (3).");
        FlueHouse x = new FlueHouse();
        Due.flagWithin(x, "tray() of sort", 0, 3, v -> x.tray(0, v, 1));
        int[] bits = {8, 16, 32, 64};
        for (int sort = 0; sort < 4; sort++) {
            long most = (1L << (bits[sort] - 1)) - 1;
            x.tray(1, sort, 2);
            x.write(1, 0, most);
            x.write(1, 1, -most - 1);
            Due.fine(x, "the most of sort " + sort, x.read(1, 0), most);
            Due.fine(x, "the least of sort " + sort, x.read(1, 1), -most - 1);
        }
    }

    private static void zeros() {
        Due.says("Promise 3", "A TRAY is a row of so many 0s");
        FlueHouse x = new FlueHouse();
        x.tray(0, 3, 60);
        for (int place = 0; place < 60; place++) {
            Due.fine(x, "a new number", x.read(0, place), 0);
            x.write(0, place, -1);
        }
        x.tray(0, 3, 0);
        x.tray(0, 2, 60);
        for (int place = 0; place < 60; place++) {
            Due.fine(x, "a number that is new again", x.read(0, place), 0);
        }
        x.write(0, 0, 5);
        Due.refused(x, "tray(0, 4, 3)", x.tray(0, 4, 3), 1);
        Due.fine(x, "a refused tray() leaves it as it was", x.read(0, 0), 5);
        Due.fine(x, "and as long as it was", x.read(0, 59), 0);
    }

    private static void cutToSort() {
        Due.says("Promise 4", "cut to its sort");
        FlueHouse x = new FlueHouse();
        int[] bits = {8, 16, 32};
        for (int sort = 0; sort < 3; sort++) {
            long half = 1L << (bits[sort] - 1);
            x.tray(0, sort, 1);
            long[][] pairs = {{half - 1, half - 1}, {half, -half}, {2 * half - 1, -1}, {2 * half, 0}, {2 * half + 1, 1},
                {-half, -half}, {-half - 1, half - 1}, {-2 * half, 0}, {Long.MAX_VALUE, -1}, {Long.MIN_VALUE, 0}};
            for (long[] pair : pairs) {
                Due.fine(x, "write() of " + pair[0], x.write(0, 0, pair[0]));
                Due.fine(x, pair[0] + " of sort " + sort, x.read(0, 0), pair[1]);
            }
        }
        x.tray(0, 3, 1);
        for (long v : new long[] {Long.MAX_VALUE, Long.MIN_VALUE, -1, 0x123456789abcdefL}) {
            x.write(0, 0, v);
            Due.fine(x, v + " of sort 3", x.read(0, 0), v);
        }
    }

    private static void places() {
        Due.says("Promise 4", "A number comes to a place of a TRAY");
        FlueHouse x = new FlueHouse();
        Due.fill(x, 2, 3, 1, 2, 3);
        Due.fine(x, "write(2, 0, 7)", x.write(2, 0, 7));
        Due.fine(x, "write(2, 2, 9)", x.write(2, 2, 9));
        Due.fine(x, "the first", x.read(2, 0), 7);
        Due.fine(x, "the second as it was", x.read(2, 1), 2);
        Due.fine(x, "the last", x.read(2, 2), 9);
    }

    private static void statusesOfWrite() {
        Due.says("Promise 4", "(1, 2, 3)");
        FlueHouse x = new FlueHouse();
        x.tray(1, 0, 5);
        for (int place : new int[] {-1, 5, Integer.MIN_VALUE, Integer.MAX_VALUE}) {
            Due.refused(x, "1 ahead of all: place " + place, x.write(4, place, 1), 1);
            Due.refused(x, "1 ahead of all: place " + place, x.write(-1, place, 1), 1);
            Due.refused(x, "2 ahead of 3: place " + place, x.write(0, place, 1), 2);
            Due.refused(x, "3: place " + place, x.write(1, place, 1), 3);
        }
        for (int place = 0; place < 5; place++) {
            Due.fine(x, "a refused write() changes nothing", x.read(1, place), 0);
        }
    }

    private static void numberInAPlace() {
        Due.says("Promise 5", "The number in a place of a TRAY");
        FlueHouse x = new FlueHouse();
        for (int tray = 0; tray < 4; tray++) {
            Due.fill(x, tray, tray, 10 * tray + 1, 10 * tray + 2, 10 * tray + 3);
        }
        for (int tray = 3; tray >= 0; tray--) {
            for (int place = 2; place >= 0; place--) {
                Due.fine(x, "read(" + tray + ", " + place + ")", x.read(tray, place), 10 * tray + 1 + place);
                Due.fine(x, "read() leaves it there", x.read(tray, place), 10 * tray + 1 + place);
            }
        }
    }

    private static void statusesOfRead() {
        Due.says("Promise 5", "(1, 2, 3)");
        FlueHouse x = new FlueHouse();
        x.tray(1, 0, 5);
        for (int place : new int[] {-1, 5, Integer.MIN_VALUE, Integer.MAX_VALUE}) {
            Due.refused(x, "1 ahead of all: place " + place, x.read(4, place), 1);
            Due.refused(x, "1 ahead of all: place " + place, x.read(-1, place), 1);
            Due.refused(x, "2 ahead of 3: place " + place, x.read(0, place), 2);
            Due.refused(x, "3: place " + place, x.read(1, place), 3);
        }
        Due.fine(x, "the first place", x.read(1, 0), 0);
        Due.fine(x, "the last place", x.read(1, 4), 0);
    }

    private static void noneAndMinusOne() {
        Due.says("Promise 5", "STATUS tells NONE from -1");
        FlueHouse x = new FlueHouse();
        for (int sort = 0; sort < 4; sort++) {
            Due.fill(x, 0, sort, -1);
            Due.fine(x, "-1 of sort " + sort, x.read(0, 0), -1);
            Due.refused(x, "NONE", x.read(0, 1), 3);
        }
    }

    private static void pourEdges() {
        Due.says("Promise 6", "So many numbers of a TRAY, from a place on, come to another one's (or its own) place on");
        FlueHouse x = new FlueHouse();
        Due.fill(x, 0, 1, 1, 2, 3, 4);
        Due.fill(x, 1, 1, 7, 8, 9);
        Due.fine(x, "pour() of none from end to end", x.pour(0, 4, 1, 3, 0));
        Due.refused(x, "pour() of none from behind the end", x.pour(0, 5, 1, 3, 0), 3);
        Due.refused(x, "pour() of none to behind the end", x.pour(0, 4, 1, 4, 0), 3);
        row(x, 1, 7, 8, 9);
        Due.fine(x, "pour() of the last to the last", x.pour(0, 3, 1, 2, 1));
        row(x, 1, 7, 8, 4);
        Due.refused(x, "pour() beyond the end of the first", x.pour(0, 3, 1, 0, 2), 3);
        Due.refused(x, "pour() beyond the end of the second", x.pour(0, 0, 1, 2, 2), 3);
        row(x, 1, 7, 8, 4);
        Due.fine(x, "pour() of as many as the second has", x.pour(0, 1, 1, 0, 3));
        row(x, 1, 2, 3, 4);
        Due.refused(x, "pour() of one more", x.pour(0, 0, 1, 0, 4), 3);
        row(x, 1, 2, 3, 4);
        row(x, 0, 1, 2, 3, 4);
        int far = Integer.MAX_VALUE;
        Due.refused(x, "pour() of very many", x.pour(0, 1, 1, 1, far), 3);
        Due.refused(x, "pour() from very far", x.pour(0, far, 1, 1, far), 3);
        Due.refused(x, "pour() to very far", x.pour(0, 0, 1, far, 1), 3);
    }

    private static void pourOntoItself() {
        Due.says("Promise 6", "as they were");
        FlueHouse x = new FlueHouse();
        Due.fill(x, 3, 3, 1, 2, 3, 4, 5);
        Due.fine(x, "pour() one place on", x.pour(3, 0, 3, 1, 4));
        row(x, 3, 1, 1, 2, 3, 4);
        Due.fill(x, 3, 3, 1, 2, 3, 4, 5);
        Due.fine(x, "pour() one place back", x.pour(3, 1, 3, 0, 4));
        row(x, 3, 2, 3, 4, 5, 5);
        Due.fine(x, "pour() onto the same places", x.pour(3, 0, 3, 0, 5));
        row(x, 3, 2, 3, 4, 5, 5);
        Due.fill(x, 0, 3, Long.MIN_VALUE, Long.MAX_VALUE);
        x.pour(0, 0, 3, 3, 2);
        row(x, 3, 2, 3, 4, Long.MIN_VALUE, Long.MAX_VALUE);
        row(x, 0, Long.MIN_VALUE, Long.MAX_VALUE);
    }

    private static void pourOrder() {
        Due.says("Promise 6", "(1: below 0, too; 2; 8; 3; asked in this order)");
        FlueHouse x = new FlueHouse();
        Due.fill(x, 0, 1, 1, 2, 3);
        Due.fill(x, 1, 2, 4, 5, 6);
        Due.fill(x, 2, 1, 7, 8, 9);
        for (int below : new int[] {-1, Integer.MIN_VALUE}) {
            Due.refused(x, "1: from a place below 0", x.pour(0, below, 2, 0, 1), 1);
            Due.refused(x, "1: to a place below 0", x.pour(0, 0, 2, below, 1), 1);
            Due.refused(x, "1: many below 0", x.pour(0, 1, 2, 1, below), 1);
            Due.refused(x, "1 ahead of 2: from a place below 0", x.pour(3, below, 2, 0, 1), 1);
            Due.refused(x, "1 ahead of 2: to a place below 0", x.pour(0, 0, 3, below, 1), 1);
            Due.refused(x, "1 ahead of 2: many below 0", x.pour(3, 0, 0, 0, below), 1);
            Due.refused(x, "1 ahead of 8", x.pour(0, 0, 1, 0, below), 1);
            Due.refused(x, "1 ahead of 3", x.pour(0, 9, 2, 0, below), 1);
        }
        Due.refused(x, "1 ahead of 2: to no tray", x.pour(3, 0, 4, 0, 1), 1);
        Due.refused(x, "1 ahead of 2: from no tray", x.pour(4, 0, 3, 0, 1), 1);
        Due.refused(x, "2: from a missing one", x.pour(3, 0, 0, 0, 1), 2);
        Due.refused(x, "2: to a missing one", x.pour(0, 0, 3, 0, 1), 2);
        Due.refused(x, "2: onto a missing one's own", x.pour(3, 0, 3, 0, 0), 2);
        Due.refused(x, "2 ahead of 3", x.pour(0, 9, 3, 0, 1), 2);
        Due.refused(x, "8: of unlike sorts", x.pour(0, 0, 1, 0, 1), 8);
        Due.refused(x, "8: the other way", x.pour(1, 0, 0, 0, 1), 8);
        Due.refused(x, "8: of none at all", x.pour(1, 0, 0, 0, 0), 8);
        Due.refused(x, "8 ahead of 3", x.pour(0, 9, 1, 0, 1), 8);
        Due.refused(x, "8 ahead of 3", x.pour(0, 0, 1, 0, 9), 8);
        Due.refused(x, "3", x.pour(0, 9, 2, 0, 1), 3);
        row(x, 0, 1, 2, 3);
        row(x, 1, 4, 5, 6);
        row(x, 2, 7, 8, 9);
        Due.fine(x, "of like sorts", x.pour(0, 0, 2, 0, 1));
        row(x, 2, 1, 8, 9);
    }

    private static void row(FlueHouse x, int tray, long... want) {
        for (int i = 0; i < want.length; i++) {
            Due.fine(x, "read(" + tray + ", " + i + ")", x.read(tray, i), want[i]);
        }
        Due.refused(x, "read() behind the last", x.read(tray, want.length), 3);
    }
}
