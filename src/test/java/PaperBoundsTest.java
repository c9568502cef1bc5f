/** The edges of what is reckoned on paper: the cheapest row, air among flues, a gauge's lines: promises 28 to 32. */
public final class PaperBoundsTest {
    private static final String TERMS = "Terms";
    private static final int CLEANERS = 0;
    private static final int PORTIONS = 1;
    private static final int LIGHT = 0;
    private static final int DRAWN = 1;

    private PaperBoundsTest() {
    }

    public static void main(String[] args) {
        cleanersOnPaper();
        holdsAndCosts();
        portionsOnPaper();
        oneBehindTheOther();
        roundedDown();
        cheapest();
        shortest();
        cleanerByCleaner();
        statusesOfRowOf();
        rowAtAsked();
        partsAndFlues();
        hindrances();
        partByPart();
        statusesOfAir();
        lightsAndDrawn();
        lines();
        spans();
        leastAndMost();
        statusesOfGauge();
        gaugeToldAsked();
        Due.end();
    }

    // ---- the cheapest row

    /** Each cleaner holds so many hundredths of size 0, and costs so much. */
    private static void paper(FlueHouse x, int[] holds, int[] costs) {
        x.tray(CLEANERS, 1, holds.length * 5);
        for (int c = 0; c < holds.length; c++) {
            x.write(CLEANERS, c * 5, holds[c]);
            x.write(CLEANERS, c * 5 + 4, costs[c]);
        }
    }

    private static FlueHouse onPaper(int[] holds, int[] costs, int portions) {
        FlueHouse x = new FlueHouse();
        paper(x, holds, costs);
        Due.fill(x, PORTIONS, 2, portions, 0, 0, 0);
        return x;
    }

    private static void rowIs(FlueHouse x, int... cleaners) {
        for (int k = 0; k < cleaners.length; k++) {
            Due.fine(x, "rowAt(" + k + ")", x.rowAt(k), cleaners[k]);
        }
        Due.refused(x, "rowAt(" + cleaners.length + ")", x.rowAt(cleaners.length), 6);
    }

    private static void cleanersOnPaper() {
        Due.says(TERMS, "ROW: cleaners on paper, 1 to 7");
        FlueHouse x = onPaper(new int[] {0, 0, 0, 0, 0, 0, 100, 100}, new int[] {1, 1, 1, 1, 1, 1, 9, 2}, 100);
        Due.numberWithin(x, "rowOf() of cleaners", 1, 7, v -> x.rowOf(CLEANERS, v, PORTIONS, 100));
        Due.fine(x, "the seventh of seven", x.rowOf(CLEANERS, 7, PORTIONS, 0), 9);
        rowIs(x, 6);
        Due.refused(x, "none of six", x.rowOf(CLEANERS, 6, PORTIONS, 0), 6);
        Due.fine(x, "one that lets all pass", x.rowOf(CLEANERS, 1, PORTIONS, 100), 0);
        rowIs(x);
    }

    private static void holdsAndCosts() {
        Due.says(TERMS, "each with what it holds of each SIZE (0 to 100) and a cost (0 to 1,000): five numbers each in a TRAY.");
        for (int place = 0; place < 10; place++) {
            FlueHouse x = onPaper(new int[] {100, 100, 100}, new int[] {1, 1, 1}, 0);
            int most = place % 5 == 4 ? 1000 : 100;
            for (int v : new int[] {0, most}) {
                x.write(CLEANERS, place, v);
                Due.fine(x, "number " + place + " is " + v, x.rowOf(CLEANERS, 2, PORTIONS, 0), 0);
            }
            for (int v : new int[] {-1, most + 1, Short.MIN_VALUE, Short.MAX_VALUE}) {
                x.write(CLEANERS, place, v);
                Due.refused(x, "number " + place + " is " + v, x.rowOf(CLEANERS, 2, PORTIONS, 0), 1);
            }
            if (place >= 5) {
                Due.fine(x, "of a cleaner that is not asked about", x.rowOf(CLEANERS, 1, PORTIONS, 0), 0);
            }
        }
        FlueHouse x = new FlueHouse();
        Due.fill(x, CLEANERS, 1, 0, 100, 0, 0, 7, 0, 0, 100, 0, 11, 0, 0, 0, 100, 1000);
        Due.fill(x, PORTIONS, 1, 0, 9, 9, 9);
        Due.fine(x, "one size each", x.rowOf(CLEANERS, 3, PORTIONS, 18), 7);
        Due.fine(x, "two sizes", x.rowOf(CLEANERS, 3, PORTIONS, 9), 18);
        Due.fine(x, "three sizes", x.rowOf(CLEANERS, 3, PORTIONS, 0), 1018);
        FlueHouse y = onPaper(new int[] {10, 10, 10, 10}, new int[] {1000, 1000, 1000, 1000}, 10000 - 1);
        Due.fine(y, "as dear as it can be", y.rowOf(CLEANERS, 4, PORTIONS, 6561), 4000);
        FlueHouse z = onPaper(new int[] {100}, new int[] {0}, 5);
        Due.fine(z, "a cost of 0", z.rowOf(CLEANERS, 1, PORTIONS, 0), 0);
        rowIs(z, 0);
    }

    private static void portionsOnPaper() {
        Due.says(TERMS, "Portions of each SIZE (0 to 9,999: the first four numbers of another TRAY)");
        for (int size = 0; size < 4; size++) {
            FlueHouse x = onPaper(new int[] {0}, new int[] {1}, 0);
            for (int v : new int[] {0, 9999}) {
                x.write(PORTIONS, size, v);
                Due.fine(x, v + " of size " + size, x.rowOf(CLEANERS, 1, PORTIONS, v), 0);
            }
            for (int v : new int[] {-1, 10000, Integer.MIN_VALUE, Integer.MAX_VALUE}) {
                x.write(PORTIONS, size, v);
                Due.refused(x, v + " of size " + size, x.rowOf(CLEANERS, 1, PORTIONS, 40000), 1);
            }
        }
        FlueHouse x = onPaper(new int[] {0}, new int[] {1}, 0);
        Due.fill(x, PORTIONS, 2, 1, 2, 3, 4, -5);
        Due.fine(x, "the fifth number is none of them", x.rowOf(CLEANERS, 1, PORTIONS, 10), 0);
        Due.refused(x, "they are 10 together", x.rowOf(CLEANERS, 1, PORTIONS, 9), 6);
        Due.fill(x, PORTIONS, 3, 1L << 32, 0, 0, 0);
        Due.refused(x, "a number of more than 32 bits", x.rowOf(CLEANERS, 1, PORTIONS, 40000), 1);
    }

    private static void oneBehindTheOther() {
        Due.says(TERMS, "go through some of them, one behind the other, each once at most, at most 4");
        FlueHouse x = onPaper(new int[] {50, 50, 50, 50, 50}, new int[] {1, 1, 1, 1, 1}, 1600);
        int[] passes = {1600, 800, 400, 200, 100};
        for (int k = 0; k <= 4; k++) {
            Due.fine(x, k + " of five", x.rowOf(CLEANERS, 5, PORTIONS, passes[k]), k);
            Due.refused(x, "rowAt(" + k + ")", x.rowAt(k), 6);
            if (k > 0) {
                Due.fine(x, "rowAt() of the last", x.rowAt(k - 1), k - 1);
                Due.fine(x, "one less may pass in the row ahead", x.rowOf(CLEANERS, 5, PORTIONS, passes[k - 1] - 1), k);
            }
        }
        Due.refused(x, "five would do, but four are the most", x.rowOf(CLEANERS, 5, PORTIONS, 99), 6);
        Due.refused(x, "one twice would do, but once is the most", x.rowOf(CLEANERS, 1, PORTIONS, 400), 6);
        Due.fine(x, "one once", x.rowOf(CLEANERS, 1, PORTIONS, 800), 1);
        Due.refused(x, "three of three", x.rowOf(CLEANERS, 3, PORTIONS, 199), 6);
    }

    private static void roundedDown() {
        Due.says(TERMS, "each holds its hundredths, rounded down.");
        FlueHouse x = onPaper(new int[] {50, 33}, new int[] {1, 1}, 7);
        Due.refused(x, "50 of 7 are 3, 33 of 4 are 1", x.rowOf(CLEANERS, 2, PORTIONS, 2), 6);
        Due.fine(x, "3 pass", x.rowOf(CLEANERS, 2, PORTIONS, 3), 2);
        rowIs(x, 0, 1);
        Due.fine(x, "4 pass", x.rowOf(CLEANERS, 2, PORTIONS, 4), 1);
        rowIs(x, 0);
        Due.fine(x, "5 pass", x.rowOf(CLEANERS, 2, PORTIONS, 5), 1);
        FlueHouse y = onPaper(new int[] {99}, new int[] {1}, 1);
        Due.refused(y, "99 of 1 are none", y.rowOf(CLEANERS, 1, PORTIONS, 0), 6);
        FlueHouse z = onPaper(new int[] {60, 70}, new int[] {1, 1}, 5);
        // 60 ahead of 70: 5, 2, 1; 70 ahead of 60: 5, 2, 1.
        Due.fine(z, "either way 1 passes", z.rowOf(CLEANERS, 2, PORTIONS, 1), 2);
        FlueHouse u = onPaper(new int[] {30, 60}, new int[] {1, 1}, 9);
        // 30 ahead of 60: 9, 7, 3; 60 ahead of 30: 9, 4, 3.
        Due.fine(u, "either way 3 pass", u.rowOf(CLEANERS, 2, PORTIONS, 3), 2);
        rowIs(u, 0, 1);
        FlueHouse v = onPaper(new int[] {50, 75}, new int[] {1, 1}, 5);
        // 50 ahead of 75: 5, 3, 1; 75 ahead of 50: 5, 2, 1.
        Due.fine(v, "2 pass by the second alone", v.rowOf(CLEANERS, 2, PORTIONS, 2), 1);
        rowIs(v, 1);
        FlueHouse w = onPaper(new int[] {50, 40}, new int[] {1, 1}, 5);
        // 50 ahead of 40: 5, 3, 2; 40 ahead of 50: 5, 3, 2.
        Due.fine(w, "either way 2 pass", w.rowOf(CLEANERS, 2, PORTIONS, 2), 2);
        FlueHouse late = onPaper(new int[] {34, 50}, new int[] {1, 1}, 3);
        // 34 ahead of 50: 3, 2, 1; 50 ahead of 34: 3, 2, 2.
        Due.fine(late, "the order counts", late.rowOf(CLEANERS, 2, PORTIONS, 1), 2);
        rowIs(late, 0, 1);
        FlueHouse turned = onPaper(new int[] {50, 34}, new int[] {1, 1}, 3);
        Due.fine(turned, "the order counts", turned.rowOf(CLEANERS, 2, PORTIONS, 1), 2);
        rowIs(turned, 1, 0);
    }

    private static void cheapest() {
        Due.says(TERMS, "The CHEAPEST that lets pass no more than so many together (0 to 40,000)");
        FlueHouse none = onPaper(new int[] {50, 80, 20}, new int[] {10, 30, 1}, 0);
        Due.numberWithin(none, "rowOf() that lets pass", 0, 40000, v -> none.rowOf(CLEANERS, 3, PORTIONS, v));
        FlueHouse x = onPaper(new int[] {50, 80, 20}, new int[] {10, 30, 1}, 100);
        Due.fine(x, "100 may pass", x.rowOf(CLEANERS, 3, PORTIONS, 100), 0);
        Due.fine(x, "99 may pass", x.rowOf(CLEANERS, 3, PORTIONS, 99), 1);
        Due.fine(x, "80 may pass", x.rowOf(CLEANERS, 3, PORTIONS, 80), 1);
        Due.fine(x, "79 may pass", x.rowOf(CLEANERS, 3, PORTIONS, 79), 10);
        Due.fine(x, "50 may pass", x.rowOf(CLEANERS, 3, PORTIONS, 50), 10);
        Due.fine(x, "49 may pass", x.rowOf(CLEANERS, 3, PORTIONS, 49), 11);
        Due.fine(x, "40 may pass", x.rowOf(CLEANERS, 3, PORTIONS, 40), 11);
        Due.fine(x, "39 may pass", x.rowOf(CLEANERS, 3, PORTIONS, 39), 30);
        Due.fine(x, "8 may pass", x.rowOf(CLEANERS, 3, PORTIONS, 8), 41);
        Due.refused(x, "7 may pass", x.rowOf(CLEANERS, 3, PORTIONS, 7), 6);
        Due.fill(x, PORTIONS, 2, 9999, 9999, 9999, 9999);
        Due.fine(x, "39,996 together", x.rowOf(CLEANERS, 3, PORTIONS, 39996), 0);
        Due.fine(x, "one fewer", x.rowOf(CLEANERS, 3, PORTIONS, 39995), 1);
        Due.fine(x, "40,000", x.rowOf(CLEANERS, 3, PORTIONS, 40000), 0);
        Due.fill(x, PORTIONS, 2, 0, 0, 0, 0);
        Due.fine(x, "none together", x.rowOf(CLEANERS, 3, PORTIONS, 0), 0);
        rowIs(x);
    }

    private static void shortest() {
        Due.says(TERMS, "of several the shortest");
        FlueHouse x = onPaper(new int[] {50, 50, 75}, new int[] {5, 5, 10}, 100);
        Due.fine(x, "two of 5, or one of 10", x.rowOf(CLEANERS, 3, PORTIONS, 25), 10);
        rowIs(x, 2);
        FlueHouse y = onPaper(new int[] {50, 50, 75}, new int[] {5, 4, 10}, 100);
        Due.fine(y, "two of 9 ahead of one of 10", y.rowOf(CLEANERS, 3, PORTIONS, 25), 9);
        rowIs(y, 0, 1);
        FlueHouse z = onPaper(new int[] {50, 0, 50}, new int[] {0, 0, 0}, 100);
        Due.fine(z, "no cleaner more than it needs", z.rowOf(CLEANERS, 3, PORTIONS, 50), 0);
        rowIs(z, 0);
        Due.fine(z, "none at all", z.rowOf(CLEANERS, 3, PORTIONS, 100), 0);
        rowIs(z);
    }

    private static void cleanerByCleaner() {
        Due.says(TERMS, "of several the first: cleaner by cleaner the lesser.");
        FlueHouse x = onPaper(new int[] {0, 50, 50, 0, 50}, new int[] {1, 1, 1, 1, 1}, 100);
        Due.fine(x, "one of three", x.rowOf(CLEANERS, 5, PORTIONS, 50), 1);
        rowIs(x, 1);
        Due.fine(x, "two of three", x.rowOf(CLEANERS, 5, PORTIONS, 25), 2);
        rowIs(x, 1, 2);
        Due.fine(x, "three of three", x.rowOf(CLEANERS, 5, PORTIONS, 13), 3);
        rowIs(x, 1, 2, 4);
        FlueHouse y = onPaper(new int[] {50, 34, 34}, new int[] {1, 1, 1}, 3);
        // 34 must stand ahead of 50: 1 0 and 2 0 do.
        Due.fine(y, "the lesser first", y.rowOf(CLEANERS, 3, PORTIONS, 1), 2);
        rowIs(y, 1, 0);
    }

    private static void statusesOfRowOf() {
        Due.says("Promise 28", "ROW: the cost of the CHEAPEST, so many cleaners in a TRAY, portions in another one, what may "
            + "pass (1; 2; 3; 1: a number; 6: none does; each asked of the cleaners' TRAY first; in this order).");
        FlueHouse x = new FlueHouse();
        Due.refused(x, "1 ahead of 2: cleaners' tray", x.rowOf(4, 1, 1, 0), 1);
        Due.refused(x, "1 ahead of 2: cleaners' tray", x.rowOf(-1, 1, 1, 0), 1);
        Due.refused(x, "1 ahead of 2: portions' tray", x.rowOf(0, 1, 4, 0), 1);
        Due.refused(x, "1 ahead of 2: portions' tray", x.rowOf(0, 1, -1, 0), 1);
        Due.refused(x, "1 ahead of 2: no cleaner", x.rowOf(0, 0, 1, 0), 1);
        Due.refused(x, "1 ahead of 2: eight", x.rowOf(0, 8, 1, 0), 1);
        Due.refused(x, "1 ahead of 2: below 0 may pass", x.rowOf(0, 1, 1, -1), 1);
        Due.refused(x, "1 ahead of 2: 40,001 may pass", x.rowOf(0, 1, 1, 40001), 1);
        Due.refused(x, "2: both", x.rowOf(0, 1, 1, 0), 2);
        Due.fill(x, 1, 1, 5, 5, 5);
        Due.refused(x, "2: the cleaners', ahead of 3 of the portions'", x.rowOf(0, 1, 1, 0), 2);
        Due.fill(x, 0, 1, 101, 0, 0, 0);
        Due.refused(x, "2: the portions', ahead of 3 of the cleaners'", x.rowOf(0, 1, 2, 0), 2);
        Due.refused(x, "3: both", x.rowOf(0, 1, 1, 0), 3);
        Due.fill(x, 1, 1, 5, 5, 5, -1);
        Due.refused(x, "3: four numbers of a cleaner, ahead of 1", x.rowOf(0, 1, 1, 0), 3);
        Due.fill(x, 0, 1, 101, 0, 0, 0, 0, 0, 0, 0, 0);
        Due.fill(x, 1, 1, 5, 5, 5);
        Due.refused(x, "3: three portions, ahead of 1", x.rowOf(0, 1, 1, 0), 3);
        Due.fill(x, 1, 1, 5, 5, 5, 5);
        Due.refused(x, "3: nine numbers of two cleaners", x.rowOf(0, 2, 1, 0), 3);
        Due.refused(x, "1: a number, ahead of 6", x.rowOf(0, 1, 1, 0), 1);
        Due.fill(x, 0, 1, 99, 0, 0, 0, 0);
        Due.refused(x, "6", x.rowOf(0, 1, 1, 0), 6);
        Due.fill(x, 1, 1, 5, 5, 5, -1);
        Due.refused(x, "1: a portion, ahead of 6", x.rowOf(0, 1, 1, 0), 1);
        Due.fill(x, 3, 1, 99, 0, 0, 0, 0);
        Due.fill(x, 2, 1, 99, 0, 0, 0, 0);
        Due.fill(x, 1, 1, 99, 0, 0, 0, 0);
        Due.numberWithin(x, "rowOf() in tray", 0, 3, v -> x.rowOf(v, 1, 0, 40000));
        Due.numberWithin(x, "rowOf() of portions in tray", 0, 3, v -> x.rowOf(0, 1, v, 40000));
    }

    private static void rowAtAsked() {
        Due.says("Promise 29", "The k-th cleaner of ROW by rowOf() latest with STATUS 0 (1: below 0; 6).");
        FlueHouse x = onPaper(new int[] {0, 50, 50}, new int[] {1, 1, 1}, 100);
        Due.refused(x, "ahead of any rowOf()", x.rowAt(0), 6);
        Due.refused(x, "1 ahead of 6", x.rowAt(-1), 1);
        Due.refused(x, "1 ahead of 6", x.rowAt(Integer.MIN_VALUE), 1);
        Due.refused(x, "rowOf() with status 6", x.rowOf(CLEANERS, 3, PORTIONS, 24), 6);
        Due.refused(x, "ahead of any with status 0", x.rowAt(0), 6);
        Due.fine(x, "rowOf()", x.rowOf(CLEANERS, 3, PORTIONS, 25), 2);
        rowIs(x, 1, 2);
        for (int k : new int[] {3, 4, 5, Integer.MAX_VALUE}) {
            Due.refused(x, "rowAt(" + k + ")", x.rowAt(k), 6);
        }
        Due.refused(x, "rowOf() with status 6", x.rowOf(CLEANERS, 3, PORTIONS, 24), 6);
        Due.refused(x, "rowOf() with status 1", x.rowOf(CLEANERS, 3, PORTIONS, -1), 1);
        Due.refused(x, "rowOf() with status 2", x.rowOf(CLEANERS, 3, 3, 0), 2);
        Due.refused(x, "rowOf() with status 3", x.rowOf(CLEANERS, 4, PORTIONS, 0), 3);
        x.write(CLEANERS, 0, 101);
        Due.refused(x, "rowOf() with status 1 of a number", x.rowOf(CLEANERS, 3, PORTIONS, 100), 1);
        rowIs(x, 1, 2);
        x.write(CLEANERS, 0, 0);
        Due.fine(x, "rowOf() of no cleaner", x.rowOf(CLEANERS, 3, PORTIONS, 100), 0);
        rowIs(x);
    }

    // ---- air

    private static void partsAndFlues() {
        Due.says(TERMS, "AIR: so many parts (0 to 200) are parted among flues, 1 to 8");
        FlueHouse x = new FlueHouse();
        Due.fill(x, 0, 1, 5, 5, 5, 5, 5, 5, 5, 5, 5);
        Due.numberWithin(x, "air() of parts", 0, 200, v -> x.air(0, 1, v, 0));
        Due.numberWithin(x, "air() among flues", 1, 8, v -> x.air(0, v, 10, 0));
        Due.fine(x, "no parts", x.air(0, 8, 0, 7), 0);
        Due.fine(x, "200 to one", x.air(0, 1, 200, 0), 200);
        for (int flue = 0; flue < 8; flue++) {
            Due.fine(x, "200 by 8", x.air(0, 8, 200, flue), 25);
            Due.fine(x, "199 by 8", x.air(0, 8, 199, flue), flue < 7 ? 25 : 24);
            Due.fine(x, "1 by 8", x.air(0, 8, 1, flue), flue == 0 ? 1 : 0);
        }
    }

    private static void hindrances() {
        Due.says(TERMS, "with a hindrance each (1 to 100) that rises: with q parts it is the hindrance times q times q.");
        FlueHouse x = new FlueHouse();
        Due.fill(x, 0, 3, 1, 100, 101, 0, -1);
        Due.fine(x, "1 and 100", x.air(0, 2, 9, 1), 0);
        Due.fine(x, "the tenth to the first: 100 each", x.air(0, 2, 10, 0), 10);
        Due.fine(x, "the eleventh to the second", x.air(0, 2, 11, 1), 1);
        Due.refused(x, "101", x.air(0, 3, 9, 0), 1);
        for (long v : new long[] {0, 101, -1, Long.MIN_VALUE, Long.MAX_VALUE, (1L << 32) + 5}) {
            Due.fill(x, 1, 3, 5, v, 5);
            Due.refused(x, "a hindrance of " + v, x.air(1, 3, 1, 0), 1);
            Due.refused(x, "a hindrance of " + v + " without parts", x.air(1, 2, 0, 0), 1);
            Due.fine(x, "a hindrance of " + v + " that is not asked about", x.air(1, 1, 1, 0), 1);
        }
        Due.fill(x, 2, 1, 1, 100);
        Due.fine(x, "200 by 1 and 100", x.air(2, 2, 200, 1), 18);
        Due.fine(x, "200 by 1 and 100", x.air(2, 2, 200, 0), 182);
    }

    private static void partByPart() {
        Due.says(TERMS, "Part by part to the flue that would have the least with it; of several the lesser.");
        FlueHouse x = new FlueHouse();
        Due.fill(x, 0, 1, 4, 1, 4, 1);
        // With the next part: 4 1 4 1, 4 4 4 1, 4 4 4 4: to the second, the fourth, the first, the second, ..
        int[][] due = {{0, 0, 0, 0}, {0, 1, 0, 0}, {0, 1, 0, 1}, {1, 1, 0, 1}, {1, 2, 0, 1}, {1, 2, 1, 1}, {1, 2, 1, 2},
            {1, 3, 1, 2}, {1, 3, 1, 3}, {2, 3, 1, 3}};
        for (int parts = 0; parts < due.length; parts++) {
            for (int flue = 0; flue < 4; flue++) {
                Due.fine(x, parts + " parts, flue " + flue, x.air(0, 4, parts, flue), due[parts][flue]);
            }
        }
    }

    private static void statusesOfAir() {
        Due.says("Promise 30", "AIR: parts that a flue gets, hindrances of so many in a TRAY (1: a flue that is none of them, "
            + "too; 2; 3; 1: a hindrance; in this order).");
        FlueHouse x = new FlueHouse();
        Due.refused(x, "1 ahead of 2: tray", x.air(4, 1, 1, 0), 1);
        Due.refused(x, "1 ahead of 2: no flue", x.air(0, 0, 1, 0), 1);
        Due.refused(x, "1 ahead of 2: nine flues", x.air(0, 9, 1, 0), 1);
        Due.refused(x, "1 ahead of 2: parts", x.air(0, 1, 201, 0), 1);
        Due.refused(x, "1 ahead of 2: flue 1 of one", x.air(0, 1, 1, 1), 1);
        Due.refused(x, "1 ahead of 2: flue -1", x.air(0, 1, 1, -1), 1);
        Due.refused(x, "2", x.air(0, 1, 1, 0), 2);
        Due.fill(x, 0, 1, 5, 0);
        Due.refused(x, "3 ahead of 1", x.air(0, 3, 1, 0), 3);
        Due.refused(x, "1 ahead of 3", x.air(0, 3, 1, 3), 1);
        Due.refused(x, "1: a hindrance", x.air(0, 2, 1, 0), 1);
        for (int tray = 0; tray < 4; tray++) {
            Due.fill(x, tray, 1, 5, 5);
        }
        Due.numberWithin(x, "air() in tray", 0, 3, v -> x.air(v, 2, 1, 0));
        Due.numberWithin(x, "air() to flue", 0, 1, v -> x.air(0, 2, 1, v));
        Due.fill(x, 0, 1, 5, 5, 5, 5, 5, 5, 5, 5);
        Due.numberWithin(x, "air() to flue of 8", 0, 7, v -> x.air(0, 8, 1, v));
    }

    // ---- gauges

    private static FlueHouse gauged(long light, long drawn) {
        FlueHouse x = new FlueHouse();
        Due.fill(x, LIGHT, 3, light);
        Due.fill(x, DRAWN, 3, drawn);
        return x;
    }

    private static void lightsAndDrawn() {
        Due.says(TERMS, "GAUGE: so many (1 to 10) light numbers (0 to 999) and what was drawn then (0 to 99,999) in two TRAYS.");
        FlueHouse x = new FlueHouse();
        Due.fill(x, LIGHT, 1, 0, 1, 2, 3, 4, 5, 6, 7, 8, 10, 11);
        Due.fill(x, DRAWN, 1, 50, 51, 52, 53, 54, 55, 56, 57, 58, 61, 61);
        Due.numberWithin(x, "gauge() of", 1, 10, v -> x.gauge(LIGHT, DRAWN, v, 0));
        Due.fine(x, "nine on one line", x.gauge(LIGHT, DRAWN, 9, 0), 1);
        Due.fine(x, "the tenth is not on it", x.gauge(LIGHT, DRAWN, 10, 0), 0);
        x.write(DRAWN, 9, 60);
        Due.fine(x, "the tenth is on it", x.gauge(LIGHT, DRAWN, 10, 0), 1);
        for (long v : new long[] {-1, 1000, Long.MIN_VALUE, Long.MAX_VALUE, 1L << 32}) {
            FlueHouse y = gauged(v, 5);
            Due.refused(y, "light " + v, y.gauge(LIGHT, DRAWN, 1, 0), 1);
        }
        for (long v : new long[] {-1, 100000, Long.MIN_VALUE, Long.MAX_VALUE, 1L << 32}) {
            FlueHouse y = gauged(5, v);
            Due.refused(y, "drawn " + v, y.gauge(LIGHT, DRAWN, 1, 0), 1);
        }
        FlueHouse least = gauged(0, 0);
        Due.fine(least, "light 0, drawn 0", least.gauge(LIGHT, DRAWN, 1, 0), 100);
        FlueHouse most = gauged(999, 99900);
        Due.fine(most, "light 999, drawn 99,900", most.gauge(LIGHT, DRAWN, 1, 0), 1);
        FlueHouse beyond = gauged(999, 99999);
        Due.fine(beyond, "light 999, drawn 99,999: 99 more than any line tells", beyond.gauge(LIGHT, DRAWN, 1, 98), 0);
        Due.fine(beyond, "with a span of 99", beyond.gauge(LIGHT, DRAWN, 1, 99), 1);
    }

    private static void lines() {
        Due.says(TERMS, "A LINE a and b: a from 0 to 99, b from 0 to 999");
        FlueHouse x = gauged(0, 0);
        Due.fine(x, "b is 0: any a", x.gauge(LIGHT, DRAWN, 1, 0), 100);
        x = gauged(0, 999);
        Due.fine(x, "b is 999: any a", x.gauge(LIGHT, DRAWN, 1, 0), 100);
        x = gauged(0, 1000);
        Due.fine(x, "b can't be 1,000", x.gauge(LIGHT, DRAWN, 1, 0), 0);
        Due.fine(x, "b is 999 with a span of 1", x.gauge(LIGHT, DRAWN, 1, 1), 100);
        x = gauged(1, 999 + 99);
        Due.fine(x, "a is 99, b is 999", x.gauge(LIGHT, DRAWN, 1, 0), 1);
        x = gauged(1, 999 + 100);
        Due.fine(x, "a can't be 100", x.gauge(LIGHT, DRAWN, 1, 0), 0);
        x = gauged(1, 0);
        Due.fine(x, "a is 0, b is 0", x.gauge(LIGHT, DRAWN, 1, 0), 1);
        x = gauged(1, 50);
        Due.fine(x, "a from 0 to 50", x.gauge(LIGHT, DRAWN, 1, 0), 51);
        x = gauged(0, 0);
        Due.fine(x, "b from 0 to 999: all lines", x.gauge(LIGHT, DRAWN, 1, 1000), 100000);
        Due.fine(x, "b from 0 to 999: all lines", x.gauge(LIGHT, DRAWN, 1, 999), 100000);
        Due.fine(x, "b from 0 to 998", x.gauge(LIGHT, DRAWN, 1, 998), 99900);
    }

    private static void spans() {
        Due.says(TERMS, "FITS if each drawn one differs by at most a SPAN (0 to 1,000) from a times the light and b.");
        FlueHouse x = new FlueHouse();
        Due.fill(x, LIGHT, 1, 0, 100);
        Due.fill(x, DRAWN, 2, 500, 1500);
        Due.numberWithin(x, "gauge() with span", 0, 1000, v -> x.gauge(LIGHT, DRAWN, 2, v));
        Due.fine(x, "a 10 and b 500", x.gauge(LIGHT, DRAWN, 2, 0), 1);
        Due.fine(x, "b 499, 500, 501", x.gauge(LIGHT, DRAWN, 2, 1), 3);
        Due.fine(x, "a 10: 99; a 9 and 11 are off by 100 together", x.gauge(LIGHT, DRAWN, 2, 49), 99);
        Due.fine(x, "a 9 and 11: one each", x.gauge(LIGHT, DRAWN, 2, 50), 103);
        Due.fill(x, DRAWN, 2, 500, 1501);
        Due.fine(x, "one is off by 1", x.gauge(LIGHT, DRAWN, 2, 0), 0);
        Due.fine(x, "b 500 or 501", x.gauge(LIGHT, DRAWN, 2, 1), 2);
        FlueHouse far = gauged(0, 1999);
        Due.fine(far, "1,000 more than 999", far.gauge(LIGHT, DRAWN, 1, 1000), 100);
        far = gauged(0, 2000);
        Due.fine(far, "1,001 more than 999", far.gauge(LIGHT, DRAWN, 1, 1000), 0);
    }

    private static void leastAndMost() {
        Due.says(TERMS, "How many FIT; for another light number the least and the most that one that FITS tells.");
        FlueHouse x = gauged(10, 30);
        Due.fine(x, "0 and 30, 1 and 20, 2 and 10, 3 and 0", x.gauge(LIGHT, DRAWN, 1, 0), 4);
        Due.fine(x, "for 0 the least", x.gaugeTold(0, 0), 0);
        Due.fine(x, "for 0 the most", x.gaugeTold(0, 1), 30);
        Due.fine(x, "for 10 the least", x.gaugeTold(10, 0), 30);
        Due.fine(x, "for 10 the most", x.gaugeTold(10, 1), 30);
        Due.fine(x, "for 999 the least", x.gaugeTold(999, 0), 30);
        Due.fine(x, "for 999 the most", x.gaugeTold(999, 1), 2997);
        x = gauged(0, 0);
        x.gauge(LIGHT, DRAWN, 1, 1000);
        Due.fine(x, "the least of all", x.gaugeTold(999, 0), 0);
        Due.fine(x, "the most of all", x.gaugeTold(999, 1), 99 * 999 + 999);
        Due.fine(x, "the most of all for 0", x.gaugeTold(0, 1), 999);
    }

    private static void statusesOfGauge() {
        Due.says("Promise 31", "GAUGE: how many LINES FIT, light and drawn in TRAYS (1; 2; 3; 1: a number; each asked of the "
            + "light's TRAY first; in this order).");
        FlueHouse x = new FlueHouse();
        Due.refused(x, "1 ahead of 2: light's tray", x.gauge(4, 1, 1, 0), 1);
        Due.refused(x, "1 ahead of 2: drawn one's tray", x.gauge(0, 4, 1, 0), 1);
        Due.refused(x, "1 ahead of 2: none", x.gauge(0, 1, 0, 0), 1);
        Due.refused(x, "1 ahead of 2: eleven", x.gauge(0, 1, 11, 0), 1);
        Due.refused(x, "1 ahead of 2: span", x.gauge(0, 1, 1, -1), 1);
        Due.refused(x, "2: both", x.gauge(0, 1, 1, 0), 2);
        Due.fill(x, 1, 3);
        Due.refused(x, "2: light's, ahead of 3 of drawn one's", x.gauge(0, 1, 1, 0), 2);
        Due.refused(x, "2: drawn one's, ahead of 3 of light's", x.gauge(1, 0, 1, 0), 2);
        Due.fill(x, 0, 3, -1, -1);
        Due.refused(x, "3 of drawn one's ahead of 1", x.gauge(0, 1, 1, 0), 3);
        Due.refused(x, "3 of light's ahead of 1", x.gauge(1, 0, 1, 0), 3);
        Due.fill(x, 1, 3, 5);
        Due.refused(x, "3: one too few drawn", x.gauge(0, 1, 2, 0), 3);
        Due.refused(x, "3: one too few lights", x.gauge(1, 0, 2, 0), 3);
        Due.refused(x, "1: light", x.gauge(0, 1, 1, 0), 1);
        Due.refused(x, "1: drawn", x.gauge(1, 0, 1, 0), 1);
        for (int tray = 0; tray < 4; tray++) {
            Due.fill(x, tray, tray, 0, -1);
        }
        Due.fine(x, "what is not asked about", x.gauge(0, 1, 1, 0), 100);
        Due.refused(x, "what is asked about", x.gauge(0, 1, 2, 0), 1);
        Due.numberWithin(x, "gauge() of light in tray", 0, 3, v -> x.gauge(v, 0, 1, 0));
        Due.numberWithin(x, "gauge() of drawn in tray", 0, 3, v -> x.gauge(0, v, 1, 0));
    }

    private static void gaugeToldAsked() {
        Due.says("Promise 32", "By gauge() latest with STATUS 0 the least (what 0), the most (1) for a light number (0 to 999) "
            + "(1; 6: none FITS; no gauge()).");
        FlueHouse x = gauged(0, 7);
        Due.refused(x, "no gauge()", x.gaugeTold(0, 0), 6);
        Due.refused(x, "no gauge()", x.gaugeTold(999, 1), 6);
        Due.refused(x, "1 ahead of 6: light", x.gaugeTold(1000, 0), 1);
        Due.refused(x, "1 ahead of 6: what", x.gaugeTold(0, 2), 1);
        Due.refused(x, "gauge() with status 1", x.gauge(LIGHT, DRAWN, 1, 1001), 1);
        Due.refused(x, "no gauge() with status 0", x.gaugeTold(0, 0), 6);
        Due.fine(x, "gauge()", x.gauge(LIGHT, DRAWN, 1, 0), 100);
        Due.numberWithin(x, "gaugeTold() of light", 0, 999, v -> x.gaugeTold(v, 0));
        Due.numberWithin(x, "gaugeTold() what", 0, 1, v -> x.gaugeTold(999, v));
        Due.fine(x, "the least for 2", x.gaugeTold(2, 0), 7);
        Due.fine(x, "the most for 2", x.gaugeTold(2, 1), 205);
        Due.refused(x, "gauge() with status 2", x.gauge(LIGHT, 3, 1, 0), 2);
        Due.refused(x, "gauge() with status 3", x.gauge(LIGHT, DRAWN, 2, 0), 3);
        x.write(DRAWN, 0, -1);
        Due.refused(x, "gauge() with status 1 of a number", x.gauge(LIGHT, DRAWN, 1, 0), 1);
        Due.fine(x, "the most for 2 still", x.gaugeTold(2, 1), 205);
        x.write(DRAWN, 0, 99999);
        Due.fine(x, "none fits", x.gauge(LIGHT, DRAWN, 1, 0), 0);
        Due.refused(x, "none fits: the least", x.gaugeTold(2, 0), 6);
        Due.refused(x, "none fits: the most", x.gaugeTold(2, 1), 6);
    }
}
