/** The edges of what is told hour by hour, rows, warmth and events, and of as of: promises 13 to 18. */
public final class TellBoundsTest {
    private static final String TERMS = "Terms";
    private static final int ALL = FlueHouse.NONE;
    /** Cleaners 0 to 3 are of sorts 0 to 3. */
    private static final String PLANT = "cyclone a holds 100,100,100,100;plates b holds 100,100,100,100 layer 9999 flies 50;"
        + "cloth c holds 100,100,100,100 full 9999;spray d holds 100,100,100,100 warm 9999;"
        + "works p at a;works q at b;works r at c;works s at d;";

    private TellBoundsTest() {
    }

    public static void main(String[] args) {
        hours();
        sizes();
        mostRows();
        portions();
        toldLatest();
        warmthBounds();
        mostEvents();
        whatIsKnocked();
        holesFromAnHourOn();
        hundredthsOfHoles();
        offFromTo();
        knownNeverGoesBack();
        asOfBounds();
        statusesOfRow();
        statusesOfWarmth();
        statusesOfKnock();
        statusesOfHole();
        statusesOfOff();
        statusesOfAsof();
        Due.end();
    }

    private static FlueHouse house() {
        return Due.rightPlant(4, PLANT);
    }

    private static void hours() {
        Due.says(TERMS, "HOURS are 0 to 47");
        FlueHouse x = house();
        Due.laws(x, "l:1 over 1 below 1;");
        Due.flagWithin(x, "row() in hour", 0, 47, v -> x.row(0, v, 0, 5, 0));
        Due.flagWithin(x, "warmth() in hour", 0, 47, v -> x.warmth(v, 5));
        Due.flagWithin(x, "knock() in hour", 0, 47, v -> x.knock(1, v, 0));
        Due.flagWithin(x, "hole() from hour", 0, 47, v -> x.hole(2, v, 5, 0));
        Due.flagWithin(x, "off() from hour", 0, 47, v -> x.off(3, v, 47, 0));
        Due.flagWithin(x, "off() to hour", 0, 47, v -> x.off(3, 0, v, 0));
        Due.numberWithin(x, "up() in hour", 0, 47, v -> x.up(v, 0));
        Due.numberWithin(x, "at() in hour", 0, 47, v -> x.at(0, v, 0, 0));
        Due.numberWithin(x, "whose() in hour", 0, 47, v -> x.whose(0, v, 0));
        Due.numberWithin(x, "broken() in hour", 0, 47, v -> x.broken(0, v));
        Due.fill(x, 0, 0, 0);
        Due.numberWithin(x, "torn() from hour", 0, 47, v -> x.torn(0, v, 1, 0));
        Due.numberWithin(x, "knocks() to hour", 0, 47, v -> x.knocks(1, 0, 1, 1, v));
        Due.fine(x, "the row of hour 0", x.at(0, 0, 0, 0), 5);
        Due.fine(x, "the row of hour 47", x.at(0, 47, 0, 0), 5);
        Due.fine(x, "no row of hour 46", x.at(0, 46, 0, 0), 0);
    }

    private static void sizes() {
        Due.says(TERMS, "SIZES 0 to 3.");
        FlueHouse x = house();
        Due.flagWithin(x, "row() of size", 0, 3, v -> x.row(0, 0, v, 5, 0));
        Due.numberWithin(x, "whose() of size", 0, 3, v -> x.whose(0, 0, v));
        Due.numberWithin(x, "up() of size (NONE: of all)", -1, 3, v -> x.up(0, v));
        Due.numberWithin(x, "at() of size (NONE: of all)", -1, 3, v -> x.at(0, 0, v, 0));
        Due.fine(x, "size 0", x.at(0, 0, 0, 0), 5);
        Due.fine(x, "size 1", x.at(0, 0, 1, 0), 0);
        Due.fine(x, "size 3", x.at(0, 0, 3, 0), 5);
        Due.fine(x, "all sizes", x.at(0, 0, ALL, 0), 10);
    }

    private static void mostRows() {
        Due.says(TERMS, "ROWS, at most 200");
        FlueHouse x = house();
        for (int i = 0; i < 199; i++) {
            Due.fine(x, "row " + (i + 1), x.row(i % 4, i % 48, i % 3, 1 + i, 0));
        }
        Due.fine(x, "row 200", x.row(0, 47, 3, 77, 0));
        Due.refused(x, "row 201", x.row(0, 47, 3, 78, 0), 4);
        Due.refused(x, "row 201, a new one", x.row(1, 46, 3, 78, 0), 4);
        Due.fine(x, "row 200 counts", x.at(0, 47, 3, 0), 77);
        Due.fine(x, "row 201 does not", x.at(1, 46, 3, 0), 0);
        Due.fine(x, "an event is no row", x.knock(1, 0, 0));
        Due.fine(x, "warmth is no row", x.warmth(0, 1));
        FlueHouse y = house();
        for (int i = 0; i < 200; i++) {
            Due.fine(y, "a row of one place time and again", y.row(0, 0, 0, i, 0));
        }
        Due.refused(y, "row 201 of that place", y.row(0, 0, 0, 5, 0), 4);
        Due.fine(y, "the 200th counts", y.at(0, 0, 0, 0), 199);
    }

    private static void portions() {
        Due.says(TERMS, "so many portions (0 to 9,999) of a SIZE");
        FlueHouse x = house();
        Due.flagWithin(x, "row() of portions", 0, 9999, v -> x.row(0, 0, 0, v, 0));
        Due.fine(x, "9,999 of them", x.at(0, 0, 0, 0), 9999);
        for (int w = 0; w < 4; w++) {
            for (int size = 0; size < 4; size++) {
                x.row(w, 47, size, 9999, 0);
            }
        }
        for (int c = 0; c < 4; c++) {
            Due.fine(x, "all that can come to " + c, x.at(c, 47, ALL, 0), 39996);
        }
    }

    private static void toldLatest() {
        Due.says(TERMS, "of these that counts that was told latest");
        FlueHouse x = house();
        x.row(0, 3, 1, 50, 7);
        x.row(0, 3, 1, 40, 7);
        Due.fine(x, "the later of one known", x.at(0, 3, 1, 0), 40);
        x.row(0, 3, 1, 0, 8);
        Due.fine(x, "0 told later", x.at(0, 3, 1, 0), 0);
        x.row(0, 3, 1, 60, 9);
        Due.fine(x, "told again", x.at(0, 3, 1, 0), 60);
        x.row(1, 3, 1, 1, 9);
        x.row(0, 4, 1, 2, 9);
        x.row(0, 3, 2, 3, 9);
        Due.fine(x, "others do not count for it", x.at(0, 3, 1, 0), 60);
        x.asof(8);
        Due.fine(x, "as of 8 the latest that was known", x.at(0, 3, 1, 0), 0);
        x.asof(7);
        Due.fine(x, "as of 7 the latest that was known", x.at(0, 3, 1, 0), 40);
        Due.says(TERMS, "0 without.");
        x.asof(6);
        Due.fine(x, "as of 6 none was known", x.at(0, 3, 1, 0), 0);
        x.asof(99);
        Due.fine(x, "no row of that hour", x.at(0, 5, 1, 0), 0);
    }

    private static void warmthBounds() {
        Due.says(TERMS, "WARMTH of an HOUR (0 to 9,999; 0 at first).");
        FlueHouse x = Due.rightPlant(1, "spray s holds 100,0,0,0 warm 1;works w at s;");
        Due.laws(x, "l:warmth over 1 below 1;m:warmth over 1 below 9999;");
        x.row(0, 0, 0, 10, 0);
        Due.fine(x, "0 at first", x.broken(0, 0), 0);
        Due.fine(x, "0 at first in hour 47", x.broken(0, 47), 0);
        Due.fine(x, "the spray holds", x.at(0, 0, 0, 1), 10);
        Due.flagWithin(x, "warmth() of", 0, 9999, v -> x.warmth(0, v));
        Due.fine(x, "9,999", x.broken(1, 0), 1);
        Due.fine(x, "the spray fails", x.at(0, 0, 0, 1), 0);
        x.warmth(0, 9998);
        Due.fine(x, "9,998", x.broken(1, 0), 0);
        x.warmth(0, 0);
        Due.fine(x, "0 again", x.broken(0, 0), 0);
        Due.fine(x, "the spray holds again", x.at(0, 0, 0, 1), 10);
        x.warmth(47, 1);
        x.asof(0);
        Due.fine(x, "warmth is there as of any hour", x.broken(0, 47), 1);
        Due.fine(x, "and in its hour alone", x.broken(0, 46), 0);
    }

    private static void mostEvents() {
        Due.says(TERMS, "EVENTS, at most 40");
        FlueHouse x = house();
        for (int i = 0; i < 39; i++) {
            int sort = i % 3;
            Due.fine(x, "event " + (i + 1), sort == 0 ? x.knock(1, 9, 0) : sort == 1 ? x.hole(2, 9, 1, 0) : x.off(3, 9, 9, 0));
        }
        x.row(3, 40, 0, 10, 0);
        Due.fine(x, "event 40", x.off(3, 40, 40, 0));
        Due.refused(x, "event 41, a knock", x.knock(1, 9, 0), 4);
        Due.refused(x, "event 41, a hole", x.hole(2, 9, 1, 0), 4);
        Due.refused(x, "event 41, off", x.off(3, 9, 9, 0), 4);
        Due.fine(x, "event 40 counts", x.at(3, 40, 0, 1), 0);
        Due.fine(x, "a row is no event", x.row(0, 0, 0, 1, 0));
        for (int sort = 0; sort < 3; sort++) {
            FlueHouse y = house();
            for (int i = 0; i < 40; i++) {
                Due.fine(y, "event " + (i + 1) + " of sort " + sort,
                    sort == 0 ? y.knock(1, 9, 0) : sort == 1 ? y.hole(2, 9, 1, 0) : y.off(3, 9, 9, 0));
            }
            Due.refused(y, "event 41", y.off(0, 0, 0, 0), 4);
        }
    }

    private static void whatIsKnocked() {
        Due.says(TERMS, "EVENTS, at most 40: a CLEANER (plates, or a cloth) is KNOCKED in an HOUR");
        FlueHouse x = house();
        Due.refused(x, "a cyclone", x.knock(0, 1, 0), 7);
        Due.refused(x, "a spray", x.knock(3, 1, 0), 7);
        for (int c = 1; c < 3; c++) {
            x.row(c, 0, 0, 10, 0);
            Due.fine(x, "plates, a cloth", x.knock(c, 1, 0));
            Due.fine(x, "the layer ahead of it", x.at(c, 0, 0, 3), 10);
            Due.fine(x, "the layer behind it", x.at(c, 1, 0, 3), 0);
        }
    }

    private static void holesFromAnHourOn() {
        Due.says(TERMS, "a cloth has a HOLE from an HOUR on");
        FlueHouse x = house();
        for (int hour = 0; hour < 48; hour++) {
            x.row(2, hour, 0, 100, 0);
        }
        Due.refused(x, "a hole in a cyclone", x.hole(0, 20, 10, 0), 7);
        Due.refused(x, "a hole in plates", x.hole(1, 20, 10, 0), 7);
        Due.refused(x, "a hole in a spray", x.hole(3, 20, 10, 0), 7);
        x.hole(2, 20, 10, 0);
        Due.fine(x, "the hour ahead", x.up(19, 0), 0);
        Due.fine(x, "the hour of the hole", x.up(20, 0), 10);
        Due.fine(x, "the last hour", x.up(47, 0), 10);
        x.hole(2, 47, 5, 0);
        Due.fine(x, "a hole in the last hour", x.up(47, 0), 15);
        Due.fine(x, "not ahead of it", x.up(46, 0), 10);
    }

    private static void hundredthsOfHoles() {
        Due.says(TERMS, "that lets pass so many hundredths more of each SIZE (1 to 100)");
        FlueHouse x = house();
        for (int size = 0; size < 4; size++) {
            x.row(2, 0, size, 100, 0);
        }
        FlueHouse y = house();
        Due.flagWithin(y, "hole() of", 1, 100, v -> y.hole(2, 0, v, 0));
        x.hole(2, 0, 1, 1);
        for (int size = 0; size < 4; size++) {
            Due.fine(x, "1 of size " + size, x.up(0, size), 1);
        }
        x.hole(2, 0, 98, 2);
        Due.fine(x, "99", x.up(0, 3), 99);
        x.hole(2, 0, 100, 3);
        Due.fine(x, "all", x.up(0, 3), 100);
    }

    private static void offFromTo() {
        Due.says(TERMS, "a CLEANER is OFF from an HOUR to an HOUR (both in it).");
        FlueHouse x = house();
        for (int c = 0; c < 4; c++) {
            for (int hour = 9; hour < 15; hour++) {
                x.row(c, hour, 0, 100, 0);
            }
            x.off(c, 10, 12, 0);
            x.off(c, 14, 14, 0);
            int[] held = {100, 0, 0, 0, 100, 0};
            for (int hour = 9; hour < 15; hour++) {
                Due.fine(x, "held by " + c + " in hour " + hour, x.at(c, hour, 0, 1), held[hour - 9]);
            }
        }
        FlueHouse y = house();
        y.row(0, 0, 0, 100, 0);
        y.row(0, 47, 0, 100, 0);
        y.off(0, 0, 0, 0);
        Due.fine(y, "off in hour 0", y.at(0, 0, 0, 1), 0);
        Due.fine(y, "not in 47", y.at(0, 47, 0, 1), 100);
        y.off(0, 47, 47, 0);
        Due.fine(y, "off in hour 47", y.at(0, 47, 0, 1), 0);
    }

    private static void knownNeverGoesBack() {
        Due.says(TERMS, "ROWS and EVENTS are KNOWN by an HOUR (0 to 99; these never go back, both together)");
        FlueHouse x = house();
        Due.fine(x, "known by 0", x.row(0, 0, 0, 1, 0));
        Due.fine(x, "known by 5", x.row(0, 0, 0, 1, 5));
        Due.refused(x, "row() known by 4", x.row(0, 0, 0, 1, 4), 5);
        Due.refused(x, "knock() known by 4", x.knock(1, 0, 4), 5);
        Due.refused(x, "hole() known by 4", x.hole(2, 0, 1, 4), 5);
        Due.refused(x, "off() known by 4", x.off(3, 0, 0, 4), 5);
        Due.fine(x, "knock() known by 5", x.knock(1, 0, 5));
        Due.fine(x, "knock() known by 6", x.knock(1, 0, 6));
        Due.refused(x, "row() known by 5", x.row(0, 0, 0, 1, 5), 5);
        Due.fine(x, "hole() known by 7", x.hole(2, 0, 1, 7));
        Due.refused(x, "row() known by 6", x.row(0, 0, 0, 1, 6), 5);
        Due.fine(x, "off() known by 8", x.off(3, 0, 0, 8));
        Due.refused(x, "row() known by 7", x.row(0, 0, 0, 1, 7), 5);
        Due.fine(x, "row() known by 8", x.row(0, 0, 0, 1, 8));
        Due.refused(x, "a refused row() known by 50", x.row(0, 0, 0, 10000, 50), 1);
        Due.refused(x, "a refused knock() known by 50", x.knock(0, 0, 50), 7);
        Due.refused(x, "a refused hole() known by 50", x.hole(0, 0, 1, 50), 7);
        Due.refused(x, "a refused off() known by 50", x.off(0, 1, 0, 50), 1);
        Due.fine(x, "none of them counts: known by 8", x.row(0, 0, 0, 1, 8));
        Due.fine(x, "known by 99", x.row(0, 0, 0, 1, 99));
        Due.refused(x, "known by 98", x.off(0, 0, 0, 98), 5);
        Due.fine(x, "known by 99 again", x.off(0, 0, 0, 99));
        FlueHouse y = house();
        Due.flagWithin(y, "row() known by", 0, 99, v -> y.row(0, 0, 0, 1, v));
        FlueHouse z = house();
        Due.flagWithin(z, "knock() known by", 0, 99, v -> z.knock(1, 0, v));
        FlueHouse u = house();
        Due.flagWithin(u, "hole() known by", 0, 99, v -> u.hole(2, 0, 1, v));
        FlueHouse v = house();
        Due.flagWithin(v, "off() known by", 0, 99, k -> v.off(3, 0, 0, k));
    }

    private static void asOfBounds() {
        Due.says(TERMS, "AS OF one (99 at first) all is told by what was KNOWN by then.");
        FlueHouse x = Due.rightPlant(2, "plates b holds 100,0,0,0 layer 9999 flies 50;cloth c holds 100,0,0,0 full 9999;"
            + "works p at b;works q at c;");
        Due.laws(x, "l:fine over 1 below 50;");
        x.row(0, 0, 0, 100, 10);
        x.row(1, 1, 0, 100, 10);
        x.knock(0, 1, 20);
        x.hole(1, 1, 30, 30);
        x.off(1, 1, 1, 40);
        Due.fine(x, "as of 99 at first: 50 fly, and 100", x.up(1, 0), 150);
        int[] asof = {9, 10, 19, 20, 29, 30, 39, 40, 98, 99};
        int[] up = {0, 0, 0, 50, 50, 80, 80, 150, 150, 150};
        for (int i = 0; i < asof.length; i++) {
            Due.fine(x, "asof(" + asof[i] + ")", x.asof(asof[i]));
            Due.fine(x, "up(1, 0) as of " + asof[i], x.up(1, 0), up[i]);
            Due.fine(x, "at() as of " + asof[i], x.at(0, 0, 0, 3), asof[i] < 10 ? 0 : 100);
            Due.fine(x, "whose() as of " + asof[i], x.whose(1, 1, 0), up[i]);
            Due.fine(x, "broken() as of " + asof[i], x.broken(0, 1), up[i] >= 50 ? 1 : 0);
            Due.is("breach() as of " + asof[i], x.breach(0), up[i] >= 50 ? 1 : FlueHouse.NONE);
            Due.fill(x, 0, 0, 47);
            Due.fine(x, "knocks() as of " + asof[i], x.knocks(0, 0, 1, 0, 1), up[i]);
        }
        Due.fine(x, "asof(0)", x.asof(0));
        Due.fine(x, "as of 0 nothing was known", x.up(1, 0), 0);
    }

    private static void statusesOfRow() {
        Due.says("Promise 13", "A ROW (1, 4, 5).");
        FlueHouse x = house();
        Due.flagWithin(x, "row() of works", 0, 3, v -> x.row(v, 0, 0, 1, 3));
        for (int i = 2; i < 200; i++) {
            x.row(0, 0, 0, 1, 3);
        }
        Due.refused(x, "4", x.row(0, 0, 0, 1, 3), 4);
        Due.refused(x, "4 ahead of 5", x.row(0, 0, 0, 1, 2), 4);
        Due.refused(x, "1 ahead of 4: works", x.row(4, 0, 0, 1, 3), 1);
        Due.refused(x, "1 ahead of 4: hour", x.row(0, 48, 0, 1, 3), 1);
        Due.refused(x, "1 ahead of 4: size", x.row(0, 0, 4, 1, 3), 1);
        Due.refused(x, "1 ahead of 4: portions", x.row(0, 0, 0, -1, 3), 1);
        Due.refused(x, "1 ahead of 4: known", x.row(0, 0, 0, 1, 100), 1);
        FlueHouse y = house();
        y.row(0, 0, 0, 1, 3);
        Due.refused(y, "5", y.row(0, 0, 0, 1, 2), 5);
        Due.refused(y, "1 ahead of 5", y.row(0, 0, 0, 10000, 2), 1);
        Due.refused(y, "1 ahead of 5: known below 0", y.row(0, 0, 0, 1, -1), 1);
        FlueHouse none = Due.rightPlant(1, "cyclone a holds 1,1,1,1;");
        Due.refused(none, "row() without works", none.row(0, 0, 0, 1, 0), 1);
    }

    private static void statusesOfWarmth() {
        Due.says("Promise 14", "WARMTH of an HOUR (1).");
        FlueHouse x = new FlueHouse();
        Due.fine(x, "warmth(0, 0) without a plant", x.warmth(0, 0));
        Due.fine(x, "warmth(47, 9999)", x.warmth(47, 9999));
        Due.refused(x, "warmth(48, 0)", x.warmth(48, 0), 1);
        Due.refused(x, "warmth(-1, 0)", x.warmth(-1, 0), 1);
        Due.refused(x, "warmth(47, 10000)", x.warmth(47, 10000), 1);
        Due.refused(x, "warmth(47, -1)", x.warmth(47, -1), 1);
        Due.laws(x, "l:warmth over 1 below 9999;");
        Due.fine(x, "a refused one changes nothing", x.broken(0, 47), 1);
    }

    private static FlueHouse withFortyEvents() {
        FlueHouse x = house();
        for (int i = 0; i < 40; i++) {
            x.off(3, 0, 0, 3);
        }
        return x;
    }

    private static FlueHouse knownByThree() {
        FlueHouse x = house();
        x.row(0, 0, 0, 1, 3);
        return x;
    }

    private static void statusesOfKnock() {
        Due.says("Promise 15", "A CLEANER is KNOCKED (1, 4, 5, 7).");
        FlueHouse x = withFortyEvents();
        Due.refused(x, "4", x.knock(1, 0, 3), 4);
        Due.refused(x, "4 ahead of 5", x.knock(1, 0, 2), 4);
        Due.refused(x, "4 ahead of 7", x.knock(0, 0, 3), 4);
        Due.refused(x, "1 ahead of 4: cleaner", x.knock(4, 0, 3), 1);
        Due.refused(x, "1 ahead of 4: cleaner", x.knock(-1, 0, 3), 1);
        Due.refused(x, "1 ahead of 4: hour", x.knock(1, 48, 3), 1);
        Due.refused(x, "1 ahead of 4: known", x.knock(1, 0, 100), 1);
        FlueHouse y = knownByThree();
        Due.refused(y, "5 ahead of 7", y.knock(0, 0, 2), 5);
        Due.refused(y, "1 ahead of 5", y.knock(1, -1, 2), 1);
        Due.refused(y, "1 ahead of 7", y.knock(0, 48, 3), 1);
        Due.refused(y, "7", y.knock(3, 0, 3), 7);
        FlueHouse z = new FlueHouse();
        Due.refused(z, "knock() without a plant", z.knock(0, 0, 0), 1);
    }

    private static void statusesOfHole() {
        Due.says("Promise 16", "A cloth has a HOLE (1, 4, 5, 7).");
        FlueHouse x = withFortyEvents();
        Due.refused(x, "4", x.hole(2, 0, 1, 3), 4);
        Due.refused(x, "4 ahead of 5", x.hole(2, 0, 1, 2), 4);
        Due.refused(x, "4 ahead of 7", x.hole(1, 0, 1, 3), 4);
        Due.refused(x, "1 ahead of 4: cleaner", x.hole(4, 0, 1, 3), 1);
        Due.refused(x, "1 ahead of 4: cleaner", x.hole(-1, 0, 1, 3), 1);
        Due.refused(x, "1 ahead of 4: hour", x.hole(2, 48, 1, 3), 1);
        Due.refused(x, "1 ahead of 4: hundredths", x.hole(2, 0, 101, 3), 1);
        Due.refused(x, "1 ahead of 4: known", x.hole(2, 0, 1, 100), 1);
        FlueHouse y = knownByThree();
        Due.refused(y, "5 ahead of 7", y.hole(0, 0, 1, 2), 5);
        Due.refused(y, "1 ahead of 5", y.hole(2, 0, 0, 2), 1);
        Due.refused(y, "1 ahead of 7", y.hole(1, 0, 0, 3), 1);
        Due.refused(y, "7", y.hole(1, 0, 1, 3), 7);
        FlueHouse z = new FlueHouse();
        Due.refused(z, "hole() without a plant", z.hole(0, 0, 1, 0), 1);
    }

    private static void statusesOfOff() {
        Due.says("Promise 17", "A CLEANER is OFF (1: to ahead of from, too; 4; 5).");
        FlueHouse x = withFortyEvents();
        Due.refused(x, "4", x.off(0, 0, 0, 3), 4);
        Due.refused(x, "4 ahead of 5", x.off(0, 0, 0, 2), 4);
        Due.refused(x, "1 ahead of 4: cleaner", x.off(4, 0, 0, 3), 1);
        Due.refused(x, "1 ahead of 4: cleaner", x.off(-1, 0, 0, 3), 1);
        Due.refused(x, "1 ahead of 4: from", x.off(0, -1, 0, 3), 1);
        Due.refused(x, "1 ahead of 4: to", x.off(0, 0, 48, 3), 1);
        Due.refused(x, "1 ahead of 4: to ahead of from", x.off(0, 1, 0, 3), 1);
        Due.refused(x, "1 ahead of 4: known", x.off(0, 0, 0, 100), 1);
        FlueHouse y = knownByThree();
        Due.refused(y, "5", y.off(0, 0, 0, 2), 5);
        Due.refused(y, "1 ahead of 5: to ahead of from", y.off(0, 1, 0, 2), 1);
        Due.refused(y, "to ahead of from by one", y.off(0, 24, 23, 3), 1);
        Due.fine(y, "to as from", y.off(0, 24, 24, 3));
        Due.fine(y, "to behind from by one", y.off(0, 24, 25, 3));
        for (int c = 0; c < 4; c++) {
            Due.fine(y, "off() of any sort", y.off(c, 0, 47, 3));
        }
        FlueHouse z = new FlueHouse();
        Due.refused(z, "off() without a plant", z.off(0, 0, 0, 0), 1);
    }

    private static void statusesOfAsof() {
        Due.says("Promise 18", "AS OF (1).");
        FlueHouse x = house();
        x.row(0, 0, 0, 7, 50);
        Due.flagWithin(x, "asof()", 0, 99, x::asof);
        x.asof(49);
        Due.refused(x, "asof(100)", x.asof(100), 1);
        Due.fine(x, "as of 49 still", x.at(0, 0, 0, 0), 0);
        Due.refused(x, "asof() brings no hour back", x.row(0, 0, 0, 7, 49), 5);
        Due.fine(x, "row() known behind as of", x.row(0, 0, 0, 8, 51));
        Due.fine(x, "it does not count yet", x.at(0, 0, 0, 0), 0);
        Due.plant(x, PLANT);
        x.row(0, 0, 0, 9, 51);
        Due.fine(x, "as of stays with a new plant", x.at(0, 0, 0, 0), 0);
        x.asof(51);
        Due.fine(x, "as of 51", x.at(0, 0, 0, 0), 9);
    }
}
