/** The edges of torn cloths and of the best hours to knock: promises 24 to 27. */
public final class HuntBoundsTest {
    private static final String TERMS = "Terms";
    private static final String CLOTH = "cloth c holds 100,100,100,100 full 9999;works w at c;";
    private static final String TWO_CLOTHS = "cyclone a holds 0,0,0,0;cloth b holds 100,100,100,100 full 9999;"
        + "plates p holds 0,0,0,0 layer 9999 flies 0;cloth d holds 100,100,100,100 full 9999;"
        + "works u at b;works v at d;";
    private static final String PLATES = "plates p holds 100,0,0,0 layer 10 flies 0;works w at p;";

    private HuntBoundsTest() {
    }

    public static void main(String[] args) {
        howManyHours();
        oneHoleMore();
        fromTheFirstToTheLast();
        tensOfHundredths();
        spans();
        fitsAndFirst();
        leftOverAhead();
        eightCloths();
        oneSearchBehindAnother();
        statusesOfTorn();
        tornToldAsked();
        hoursToKnock();
        knockedMore();
        mostKnocks();
        leastUp();
        fewestKnocks();
        firstSet();
        statusesOfKnocks();
        knockSetAsked();
        Due.end();
    }

    private static FlueHouse dusty(String plant, int works, int size) {
        FlueHouse x = new FlueHouse();
        Due.plant(x, plant);
        for (int hour = 0; hour < 48; hour++) {
            for (int w = 0; w < works; w++) {
                x.row(w, hour, size, 100, 0);
            }
        }
        return x;
    }

    private static void told(FlueHouse x, int cloth, int hour, int hundredths) {
        Due.fine(x, "tornTold(0)", x.tornTold(0), cloth);
        Due.fine(x, "tornTold(1)", x.tornTold(1), hour);
        Due.fine(x, "tornTold(2)", x.tornTold(2), hundredths);
    }

    // ---- torn

    private static void howManyHours() {
        Due.says(TERMS, "TORN: a row of what was UP, all SIZES together, in so many HOURS (1 to 24; in a TRAY)");
        FlueHouse x = dusty(CLOTH, 1, 2);
        x.tray(0, 3, 60);
        Due.numberWithin(x, "torn() of hours", 1, 24, v -> x.torn(0, 0, v, 0));
        for (int hour = 0; hour < 24; hour++) {
            x.write(0, hour, hour < 23 ? 0 : 40);
        }
        Due.fine(x, "24 hours, the last of them with a hole", x.torn(0, 0, 24, 0), 1);
        told(x, 0, 23, 40);
        Due.fine(x, "23 hours: none is torn", x.torn(0, 0, 23, 0), 0);
        Due.fill(x, 1, 0, 40);
        Due.fine(x, "one hour", x.torn(1, 0, 1, 0), 1);
        told(x, 0, 0, 40);
        for (int size = 0; size < 4; size++) {
            x.row(0, 0, size, 10, 0);
        }
        Due.fine(x, "40 of all sizes together", x.torn(1, 0, 1, 0), 1);
        told(x, 0, 0, 100);
    }

    private static void oneHoleMore() {
        Due.says(TERMS, "from an HOUR on, is explained by one HOLE more");
        FlueHouse x = dusty(CLOTH, 1, 0);
        x.hole(0, 5, 30, 1);
        Due.fill(x, 0, 1, 0, 30, 30, 50, 50);
        Due.fine(x, "hours 4 to 8", x.torn(0, 4, 5, 0), 1);
        told(x, 0, 7, 20);
        Due.fill(x, 0, 1, 0, 30, 30);
        Due.fine(x, "as it is: not with one more that lets pass", x.torn(0, 4, 3, 0), 0);
        x.asof(0);
        Due.fine(x, "as of 0 there is no hole yet", x.torn(0, 4, 3, 0), 1);
        told(x, 0, 5, 30);
        Due.fine(x, "the hole was only supposed", x.up(47, 0), 0);
        x.asof(99);
        Due.fine(x, "the hole was only supposed", x.up(47, 0), 30);
        x.hole(0, 6, 70, 2);
        Due.fill(x, 0, 1, 100, 100);
        Due.fine(x, "more than all can't pass: any from 0 to 11 on", x.torn(0, 10, 2, 0), 120);
        x.off(0, 20, 20, 2);
        Due.fill(x, 0, 1, 100);
        Due.fine(x, "what is off lets pass all with any hole", x.torn(0, 20, 1, 0), 210);
    }

    private static void fromTheFirstToTheLast() {
        Due.says(TERMS, "in a cloth, from an HOUR on (0 to the last one)");
        FlueHouse x = dusty(CLOTH, 1, 0);
        Due.fill(x, 0, 1, 0, 0, 60);
        Due.fine(x, "in the row's last hour", x.torn(0, 10, 3, 0), 1);
        told(x, 0, 12, 60);
        Due.fill(x, 0, 1, 60, 60, 60);
        Due.fine(x, "in hours 0 to 10", x.torn(0, 10, 3, 0), 11);
        told(x, 0, 0, 60);
        Due.fill(x, 0, 1, 0, 0, 0);
        Due.fine(x, "behind the row there is none", x.torn(0, 10, 3, 0), 0);
        Due.fill(x, 0, 1, 60);
        Due.fine(x, "in hours 0 to 47", x.torn(0, 47, 1, 0), 48);
        told(x, 0, 0, 60);
        Due.fine(x, "in hour 0 alone", x.torn(0, 0, 1, 0), 1);
        FlueHouse y = dusty("cyclone a holds 40,0,0,0;plates p holds 40,0,0,0 layer 9999 flies 0;"
            + "spray s holds 40,0,0,0 warm 9999;works u at a;works v at p;works w at s;", 3, 0);
        Due.fill(y, 0, 1, 180);
        Due.fine(y, "in a cloth alone", y.torn(0, 0, 1, 1000), 0);
    }

    private static void tensOfHundredths() {
        Due.says(TERMS, "of 10, 20, .. 100 hundredths");
        for (int up = 0; up <= 110; up++) {
            FlueHouse x = Due.rightPlant(1, CLOTH);
            x.row(0, 0, 0, 100, 0);
            Due.fill(x, 0, 1, up);
            boolean ten = up % 10 == 0 && up >= 10 && up <= 100;
            Due.fine(x, "up " + up, x.torn(0, 0, 1, 0), ten ? 1 : 0);
            Due.is("its hundredths", x.tornTold(2), ten ? up : FlueHouse.NONE);
        }
    }

    private static void spans() {
        Due.says(TERMS, "if each number of the row differs by at most a SPAN (0 to 1,000) from what would be UP with it.");
        FlueHouse x = dusty(CLOTH, 1, 0);
        Due.fill(x, 0, 1, 0, 0, 50, 50);
        Due.numberWithin(x, "torn() with span", 0, 1000, v -> x.torn(0, 0, 4, v));
        Due.fine(x, "with span 0", x.torn(0, 0, 4, 0), 1);
        Due.fill(x, 0, 1, 0, 0, 53, 47);
        Due.fine(x, "3 more and 3 less, with span 2", x.torn(0, 0, 4, 2), 0);
        Due.fine(x, "3 more and 3 less, with span 3", x.torn(0, 0, 4, 3), 1);
        Due.fill(x, 0, 1, 0, 3, 50, 50);
        Due.fine(x, "3 more ahead of the hole, with span 2", x.torn(0, 0, 4, 2), 0);
        Due.fine(x, "3 more ahead of the hole, with span 3", x.torn(0, 0, 4, 3), 1);
        Due.fill(x, 0, 1, -3, 0, 50, 50);
        Due.fine(x, "3 less than 0, with span 2", x.torn(0, 0, 4, 2), 0);
        Due.fine(x, "3 less than 0, with span 3", x.torn(0, 0, 4, 3), 1);
        Due.fill(x, 0, 3, 1100);
        Due.fine(x, "1,000 more than 100", x.torn(0, 0, 1, 1000), 1);
        told(x, 0, 0, 100);
        Due.fill(x, 0, 3, 1101);
        Due.fine(x, "1,001 more than 100", x.torn(0, 0, 1, 1000), 0);
        Due.fill(x, 0, 3, -990);
        Due.fine(x, "1,000 less than 10", x.torn(0, 0, 1, 1000), 1);
        told(x, 0, 0, 10);
        Due.fill(x, 0, 3, -991);
        Due.fine(x, "1,001 less than 10", x.torn(0, 0, 1, 1000), 0);
        for (long far : new long[] {Long.MIN_VALUE, Long.MIN_VALUE + 1000, Long.MAX_VALUE - 1000, Long.MAX_VALUE}) {
            Due.fill(x, 0, 3, far);
            Due.fine(x, "very far away: " + far, x.torn(0, 0, 1, 1000), 0);
        }
    }

    private static void fitsAndFirst() {
        Due.says(TERMS, "FITS: how many such HOLES; the first: by cloth, HOUR, hundredths.");
        FlueHouse x = dusty(TWO_CLOTHS, 2, 0);
        Due.fill(x, 0, 1, 0, 40);
        Due.fine(x, "one in each cloth", x.torn(0, 3, 2, 0), 2);
        told(x, 1, 4, 40);
        Due.fine(x, "30, 40 and 50 in each cloth", x.torn(0, 3, 2, 10), 6);
        told(x, 1, 4, 30);
        x.row(0, 4, 0, 0, 0);
        Due.fine(x, "b has no dust in hour 4: d alone", x.torn(0, 3, 2, 0), 1);
        told(x, 3, 4, 40);
        Due.fill(x, 0, 1, 0, 0);
        Due.fine(x, "b may be torn from hour 4 on, by any", x.torn(0, 3, 2, 0), 10);
        told(x, 1, 4, 10);
        Due.fill(x, 0, 1, 40, 40);
        Due.fine(x, "d from 0 to 3 on", x.torn(0, 3, 2, 0), 4);
        told(x, 3, 0, 40);
        Due.fill(x, 0, 1, 35);
        Due.fine(x, "40 or 30: the hour ahead of the hundredths", x.torn(0, 3, 1, 5), 16);
        told(x, 1, 0, 30);
        Due.fill(x, 0, 1, 500);
        Due.fine(x, "none fits", x.torn(0, 3, 1, 5), 0);
        FlueHouse y = dusty(TWO_CLOTHS, 2, 0);
        y.row(1, 3, 0, 0, 0);
        Due.fill(y, 0, 1, 0, 40);
        Due.fine(y, "b from 4 on, d from 0 to 4 on", y.torn(0, 3, 2, 0), 6);
        told(y, 1, 4, 40);
    }

    private static void leftOverAhead() {
        Due.says(TERMS, "from what would be UP with it.");
        FlueHouse x = Due.rightPlant(1, "cloth c holds 50,0,0,0 full 9999;works w at c;");
        for (int hour = 0; hour < 3; hour++) {
            x.row(0, hour, 0, 1, 0);
        }
        Due.fill(x, 0, 1, 1, 1, 0);
        // From 0 on with 10: 40, 80, 120. From 1 on, with 50 left over of hour 0, with 10: 90, 130, with 20: 80, 110.
        Due.fine(x, "what is left over of the hours ahead counts", x.torn(0, 0, 3, 0), 3);
        told(x, 0, 0, 10);
        Due.fill(x, 0, 1, 1, 0);
        Due.fine(x, "hours 1 and 2 alone", x.torn(0, 1, 2, 0), 3);
        told(x, 0, 0, 10);
        FlueHouse y = Due.rightPlant(1, "cloth c holds 100,0,0,0 full 10;works w at c;");
        for (int hour = 0; hour < 3; hour++) {
            y.row(0, hour, 0, 10, 0);
        }
        Due.fill(y, 0, 1, 0, 10, 10);
        // From hour 1 on the cloth is full: any hole. From 0 on it lets pass of hour 0, too.
        Due.fine(y, "a cloth that was full ahead of the hole", y.torn(0, 0, 3, 0), 20);
        told(y, 0, 1, 10);
        Due.fill(y, 0, 1, 1, 1, 10);
        // 9 in hour 0, so not full: 9 in hour 1; then it is full.
        Due.fine(y, "a cloth that is full later with the hole", y.torn(0, 0, 3, 0), 1);
        told(y, 0, 0, 10);
    }

    private static void eightCloths() {
        Due.says(TERMS, "FITS: how many such HOLES");
        StringBuilder text = new StringBuilder();
        for (char c = 'a'; c <= 'h'; c++) {
            text.append("cloth ").append(c).append(" holds 100,0,0,0 full 9999;");
        }
        FlueHouse x = Due.rightPlant(8, text + "works w at h;");
        x.row(0, 0, 0, 100, 0);
        Due.fill(x, 0, 1, 30);
        Due.fine(x, "in the eighth alone", x.torn(0, 0, 1, 0), 1);
        told(x, 7, 0, 30);
        Due.fill(x, 0, 1, 0);
        Due.fine(x, "in the other seven by any", x.torn(0, 0, 1, 0), 70);
        told(x, 0, 0, 10);
        for (int i = 0; i < 2; i++) {
            Due.plant(x, "cloth a holds 100,0,0,0 full 9999;");
            Due.fine(x, "in one, when there is but one", x.torn(0, 0, 1, 0), 10);
        }
    }

    private static void oneSearchBehindAnother() {
        Due.says("Promise 24", "FITS of TORN");
        FlueHouse x = Due.rightPlant(1, "cloth c holds 100,0,0,0 full 10;works w at c;");
        int[] dust = {4, 4, 4, 6, 6};
        for (int hour = 0; hour < 5; hour++) {
            x.row(0, hour, 0, dust[hour], 0);
        }
        Due.fill(x, 0, 0, 2, 4, 3);
        Due.fill(x, 1, 2, 0, 0, 0, 6, 6);
        Due.fill(x, 2, 2, 2, 2, 2, 3, 3);
        Due.fine(x, "knocks()", x.knocks(0, 0, 3, 3, 4), 0);
        Due.fine(x, "torn() knows nothing of them: full in 3 and 4, any hole then", x.torn(1, 0, 5, 0), 20);
        Due.fine(x, "a hole of 50 from 0 on", x.torn(2, 0, 5, 0), 1);
        Due.says("Promise 26", "the least that is UP");
        Due.fine(x, "knocks() knows nothing of it", x.knocks(0, 0, 3, 0, 4), 12);
        Due.fine(x, "nor of the set ahead", x.knockSet(), 0);
        Due.fine(x, "nor does up()", x.up(4, 0), 6);
        Due.fine(x, "nor does at()", x.at(0, 2, 0, 3), 12);
        x.torn(2, 0, 1, 0);
        Due.fine(x, "at() of an hour behind those that torn() went through", x.at(0, 4, 0, 3), 12);
        Due.fine(x, "at() of one ahead", x.at(0, 0, 0, 3), 4);
    }

    private static void statusesOfTorn() {
        Due.says("Promise 24", "FITS of TORN, the row's first HOUR, how many, in a TRAY (1: also beyond HOUR 47; 2; 3).");
        FlueHouse x = dusty(CLOTH, 1, 0);
        x.tray(0, 0, 24);
        Due.fine(x, "hours 24 to 47", x.torn(0, 24, 24, 0), 0);
        Due.refused(x, "hours 25 to 48", x.torn(0, 25, 24, 0), 1);
        Due.fine(x, "hour 47 alone", x.torn(0, 47, 1, 0), 0);
        Due.refused(x, "hours 47 and 48", x.torn(0, 47, 2, 0), 1);
        Due.refused(x, "hour 48", x.torn(0, 48, 1, 0), 1);
        for (int tray = 0; tray < 4; tray++) {
            x.tray(tray, 0, 24);
        }
        Due.numberWithin(x, "torn() in tray", 0, 3, v -> x.torn(v, 0, 1, 0));
        FlueHouse y = dusty(CLOTH, 1, 0);
        Due.refused(y, "2", y.torn(1, 0, 1, 0), 2);
        Due.refused(y, "1 ahead of 2: beyond 47", y.torn(1, 47, 2, 0), 1);
        Due.refused(y, "1 ahead of 2: span", y.torn(1, 0, 1, 1001), 1);
        y.tray(1, 0, 3);
        Due.fine(y, "as many as there are", y.torn(1, 0, 3, 0), 0);
        Due.refused(y, "3: one more", y.torn(1, 0, 4, 0), 3);
        Due.refused(y, "1 ahead of 3", y.torn(1, 47, 4, 0), 1);
        y.tray(1, 0, 0);
        Due.refused(y, "3: a row of none", y.torn(1, 0, 1, 0), 3);
        FlueHouse z = new FlueHouse();
        z.tray(0, 0, 1);
        Due.fine(z, "without a plant none fits", z.torn(0, 0, 1, 0), 0);
    }

    private static void tornToldAsked() {
        Due.says("Promise 25", "Of the first HOLE of torn() latest with STATUS 0, what 0: the CLEANER, 1: the HOUR, 2: its "
            + "hundredths (1; 6: none FITS; no torn()).");
        FlueHouse x = dusty(TWO_CLOTHS, 2, 0);
        Due.refused(x, "no torn()", x.tornTold(0), 6);
        Due.refused(x, "1 ahead of 6", x.tornTold(3), 1);
        Due.refused(x, "1 ahead of 6", x.tornTold(-1), 1);
        Due.fill(x, 0, 1, 0, 70);
        x.torn(0, 9, 2, -1);
        Due.refused(x, "no torn() with status 0", x.tornTold(0), 6);
        x.torn(0, 9, 2, 0);
        told(x, 1, 10, 70);
        Due.numberWithin(x, "tornTold()", 0, 2, x::tornTold);
        Due.refused(x, "a torn() with status 1", x.torn(0, 9, 2, -1), 1);
        Due.refused(x, "a torn() with status 2", x.torn(1, 9, 2, 0), 2);
        Due.refused(x, "a torn() with status 3", x.torn(0, 9, 3, 0), 3);
        told(x, 1, 10, 70);
        Due.plant(x, CLOTH);
        told(x, 1, 10, 70);
        x.torn(0, 9, 2, 0);
        for (int what = 0; what < 3; what++) {
            Due.refused(x, "none fits", x.tornTold(what), 6);
        }
    }

    // ---- knocks

    private static void hoursToKnock() {
        Due.says(TERMS, "KNOCKS: of HOURS in a TRAY (1 to 6, no two alike)");
        FlueHouse x = dusty(PLATES, 1, 1);
        Due.fill(x, 0, 0, 5, 0, 47, 1, 2, 3, 4);
        Due.numberWithin(x, "knocks() of hours", 1, 6, v -> x.knocks(0, 0, v, 0, 47));
        Due.fill(x, 0, 0, 5, 0, 47, 1, 2, 5);
        Due.refused(x, "the first and the sixth alike", x.knocks(0, 0, 6, 0, 47), 1);
        Due.fine(x, "five of them", x.knocks(0, 0, 5, 0, 47), 4800);
        Due.fill(x, 0, 0, 5, 0, 47, 1, 1, 6);
        Due.refused(x, "the fourth and the fifth alike", x.knocks(0, 0, 6, 0, 47), 1);
        Due.refused(x, "five of them", x.knocks(0, 0, 5, 0, 47), 1);
        Due.fine(x, "four of them", x.knocks(0, 0, 4, 0, 47), 4800);
        long[] hours = {-1, 48, 127, -128};
        for (long hour : hours) {
            Due.fill(x, 0, 0, 5, hour);
            Due.refused(x, "hour " + hour, x.knocks(0, 0, 2, 0, 47), 1);
            Due.fine(x, "behind those that are asked of", x.knocks(0, 0, 1, 0, 47), 4800);
        }
        Due.fill(x, 0, 3, 1L << 32);
        Due.refused(x, "an hour of more than 32 bits", x.knocks(0, 0, 1, 0, 47), 1);
    }

    private static void knockedMore() {
        Due.says(TERMS, "those in which one CLEANER (plates, or a cloth) is KNOCKED more");
        FlueHouse x = Due.rightPlant(4, "plates p holds 100,0,0,0 layer 10 flies 0;cloth c holds 100,0,0,0 full 10;"
            + "cyclone a holds 0,0,0,0;spray s holds 0,0,0,0 warm 1;works v at p;works w at c;");
        for (int hour = 0; hour < 3; hour++) {
            x.row(0, hour, 0, 10, 0);
            x.row(1, hour, 0, 10, 0);
        }
        Due.fill(x, 0, 0, 1, 2);
        Due.fine(x, "of plates", x.knocks(0, 0, 2, 2, 2), 20);
        Due.fine(x, "its set", x.knockSet(), 3);
        Due.fine(x, "of a cloth", x.knocks(1, 0, 2, 2, 2), 10);
        Due.fine(x, "its set", x.knockSet(), 3);
        Due.refused(x, "of a cyclone", x.knocks(2, 0, 2, 2, 2), 7);
        Due.refused(x, "of a spray", x.knocks(3, 0, 2, 2, 2), 7);
        x.knock(1, 1, 0);
        Due.fine(x, "knocked already in hour 1", x.knocks(1, 0, 2, 2, 2), 10);
        Due.fine(x, "its set", x.knockSet(), 2);
        Due.fine(x, "the knocks were only supposed", x.up(2, 0), 15);
    }

    private static void mostKnocks() {
        Due.says(TERMS, "at most n of them");
        FlueHouse x = dusty("cloth c holds 100,0,0,0 full 10;works w at c;", 1, 0);
        Due.fill(x, 0, 0, 1, 2, 3, 4, 5, 6);
        Due.numberWithin(x, "knocks() at most", 0, 6, v -> x.knocks(0, 0, 6, v, 6));
        for (int n = 0; n <= 6; n++) {
            Due.fine(x, "at most " + n, x.knocks(0, 0, 6, n, 6), 600 - 100 * n);
            Due.fine(x, "its set", x.knockSet(), (1 << n) - 1);
        }
        Due.refused(x, "7 of 6", x.knocks(0, 0, 6, 7, 6), 1);
        Due.refused(x, "2 of 1", x.knocks(0, 0, 1, 2, 6), 1);
        Due.fine(x, "1 of 1", x.knocks(0, 0, 1, 1, 6), 500);
    }

    private static void leastUp() {
        Due.says(TERMS, "so that what is UP together in all HOURS to one is least");
        FlueHouse x = Due.rightPlant(1, "plates p holds 100,100,100,100 layer 10 flies 50;works w at p;");
        x.row(0, 0, 3, 40, 0);
        x.row(0, 1, 0, 30, 0);
        x.row(0, 2, 1, 100, 0);
        Due.fill(x, 0, 0, 1, 2);
        Due.fine(x, "to hour 0", x.knocks(0, 0, 2, 2, 0), 0);
        Due.fine(x, "its set", x.knockSet(), 0);
        Due.fine(x, "to hour 1: 15 unknocked, 20 knocked", x.knocks(0, 0, 2, 2, 1), 15);
        Due.fine(x, "its set", x.knockSet(), 0);
        // Unknocked 15 and 50; in 1: 20 and 50; in 2: 15, and 20 and 7 of its layer; in both: 20, and 15 of it.
        Due.fine(x, "to hour 2: in both", x.knocks(0, 0, 2, 2, 2), 35);
        Due.fine(x, "its set", x.knockSet(), 3);
        Due.fine(x, "to hour 2, one of them", x.knocks(0, 0, 2, 1, 2), 42);
        Due.fine(x, "its set", x.knockSet(), 2);
        Due.fine(x, "to hour 47", x.knocks(0, 0, 2, 2, 47), 35);
        Due.says(TERMS, "That least is told.");
        Due.fine(x, "none of them", x.knocks(0, 0, 2, 0, 2), 65);
        Due.fine(x, "what is up of itself", x.up(0, -1) + x.up(1, -1) + x.up(2, -1), 65);
    }

    private static void fewestKnocks() {
        Due.says(TERMS, "of several the fewest KNOCKS");
        FlueHouse x = Due.rightPlant(1, "cloth c holds 100,0,0,0 full 10;works w at c;");
        int[] dust = {4, 4, 4, 6, 6};
        for (int hour = 0; hour < 5; hour++) {
            x.row(0, hour, 0, dust[hour], 0);
        }
        Due.fill(x, 0, 0, 2, 4, 3);
        Due.fine(x, "in 2 and 4, or in 3 alone", x.knocks(0, 0, 3, 3, 4), 0);
        Due.fine(x, "3 alone", x.knockSet(), 4);
        Due.fill(x, 0, 0, 2, 4, 47);
        Due.fine(x, "in 2 and 4; 47 is no help", x.knocks(0, 0, 3, 3, 4), 0);
        Due.fine(x, "2 and 4", x.knockSet(), 3);
        Due.fill(x, 0, 0, 40, 41, 42);
        Due.fine(x, "no help", x.knocks(0, 0, 3, 3, 47), 12);
        Due.fine(x, "none", x.knockSet(), 0);
    }

    private static void firstSet() {
        Due.says(TERMS, "of these the first set (1 for the first number, 2 for the second ..).");
        FlueHouse x = dusty("cloth c holds 100,0,0,0 full 10;works w at c;", 1, 0);
        Due.fill(x, 0, 0, 6, 5, 4, 3, 2, 1);
        Due.fine(x, "one of six", x.knocks(0, 0, 6, 1, 6), 500);
        Due.fine(x, "the first", x.knockSet(), 1);
        Due.fine(x, "two of six", x.knocks(0, 0, 6, 2, 6), 400);
        Due.fine(x, "the first and the second", x.knockSet(), 3);
        int[] bits = {1, 2, 4, 8, 16, 32};
        for (int i = 0; i < 6; i++) {
            long[] hours = {40, 41, 42, 43, 44, 45};
            hours[i] = 1;
            Due.fill(x, 0, 0, hours);
            Due.fine(x, "one of them helps", x.knocks(0, 0, 6, 6, 6), 500);
            Due.fine(x, "it is number " + i, x.knockSet(), bits[i]);
        }
        Due.fill(x, 0, 0, 40, 1, 2, 41, 3, 42);
        Due.fine(x, "two of the second, third and fifth", x.knocks(0, 0, 6, 2, 6), 400);
        Due.fine(x, "the second and the third", x.knockSet(), 6);
        FlueHouse y = Due.rightPlant(1, "cloth c holds 100,0,0,0 full 10;works w at c;");
        for (int hour = 0; hour < 5; hour++) {
            y.row(0, hour, 0, hour % 2 == 0 ? 10 : 0, 0);
        }
        // Hours 1 and 2 are as good as one another, and so are 3 and 4: of the first and the fourth, the second and
        // the third, one of each pair.
        Due.fill(y, 0, 0, 1, 3, 2, 4);
        Due.fine(y, "one of each pair", y.knocks(0, 0, 4, 4, 4), 0);
        Due.fine(y, "the first and the second", y.knockSet(), 3);
        Due.fill(y, 0, 0, 1, 2, 40, 3);
        Due.fine(y, "the fourth with the first or the second", y.knocks(0, 0, 4, 4, 4), 0);
        Due.fine(y, "with the first", y.knockSet(), 9);
    }

    private static void statusesOfKnocks() {
        Due.says("Promise 26", "KNOCKS of a CLEANER, HOURS many in a TRAY, n at most (0 to many), to an HOUR: the least that "
            + "is UP (1; 2; 3; 1: a number, two alike; 7; in this order).");
        FlueHouse x = Due.rightPlant(2, "plates p holds 0,0,0,0 layer 9 flies 0;cyclone a holds 0,0,0,0;works w at p;");
        Due.refused(x, "1 ahead of 2: cleaner 2", x.knocks(2, 0, 1, 1, 0), 1);
        Due.refused(x, "1 ahead of 2: cleaner -1", x.knocks(-1, 0, 1, 1, 0), 1);
        Due.refused(x, "1 ahead of 2: no hours", x.knocks(0, 0, 0, 0, 0), 1);
        Due.refused(x, "1 ahead of 2: 7 hours", x.knocks(0, 0, 7, 0, 0), 1);
        Due.refused(x, "1 ahead of 2: n of 2", x.knocks(0, 0, 1, 2, 0), 1);
        Due.refused(x, "1 ahead of 2: n of -1", x.knocks(0, 0, 1, -1, 0), 1);
        Due.refused(x, "1 ahead of 2: to 48", x.knocks(0, 0, 1, 1, 48), 1);
        Due.refused(x, "2 ahead of 7", x.knocks(1, 0, 1, 1, 0), 2);
        Due.fill(x, 0, 0, 5, 5);
        Due.refused(x, "3 ahead of 1: two alike", x.knocks(0, 0, 3, 1, 0), 3);
        Due.refused(x, "3 ahead of 7", x.knocks(1, 0, 3, 1, 0), 3);
        Due.refused(x, "1 ahead of 3", x.knocks(0, 0, 3, 1, 48), 1);
        Due.refused(x, "1: two alike ahead of 7", x.knocks(1, 0, 2, 1, 0), 1);
        Due.fill(x, 0, 0, 48);
        Due.refused(x, "3 ahead of 1: a number", x.knocks(0, 0, 2, 1, 0), 3);
        Due.refused(x, "1: a number ahead of 7", x.knocks(1, 0, 1, 1, 0), 1);
        Due.fill(x, 0, 0, 47);
        Due.refused(x, "7", x.knocks(1, 0, 1, 1, 0), 7);
        Due.fine(x, "0", x.knocks(0, 0, 1, 1, 0), 0);
        for (int tray = 0; tray < 4; tray++) {
            Due.fill(x, tray, 3, 0, 47);
        }
        FlueHouse one = Due.rightPlant(1, PLATES);
        Due.fill(one, 0, 3, 0, 47);
        Due.numberWithin(one, "knocks() of cleaner", 0, 0, v -> one.knocks(v, 0, 2, 1, 0));
        Due.numberWithin(x, "knocks() in tray", 0, 3, v -> x.knocks(0, v, 2, 1, 0));
        Due.numberWithin(x, "knocks() at most", 0, 2, v -> x.knocks(0, 0, 2, v, 0));
        Due.numberWithin(x, "knocks() to hour", 0, 47, v -> x.knocks(0, 0, 2, 1, v));
    }

    private static void knockSetAsked() {
        Due.says("Promise 27", "The set of knocks() latest with STATUS 0 (6).");
        FlueHouse x = dusty("cloth c holds 100,0,0,0 full 10;works w at c;", 1, 0);
        Due.refused(x, "ahead of any knocks()", x.knockSet(), 6);
        Due.refused(x, "knocks() with status 2", x.knocks(0, 0, 1, 1, 6), 2);
        Due.refused(x, "ahead of any with status 0", x.knockSet(), 6);
        Due.fill(x, 0, 0, 40, 5, 3);
        Due.fine(x, "knocks()", x.knocks(0, 0, 3, 2, 6), 400);
        Due.fine(x, "its set", x.knockSet(), 6);
        Due.refused(x, "knocks() with status 1", x.knocks(0, 0, 3, 4, 6), 1);
        Due.refused(x, "knocks() with status 3", x.knocks(0, 0, 4, 1, 6), 3);
        Due.fine(x, "the set still", x.knockSet(), 6);
        Due.plant(x, "cyclone a holds 1,1,1,1;");
        Due.refused(x, "knocks() with status 7", x.knocks(0, 0, 3, 2, 6), 7);
        Due.fine(x, "the set still", x.knockSet(), 6);
        Due.plant(x, "cloth c holds 1,1,1,1 full 1;");
        Due.fine(x, "knocks() without dust", x.knocks(0, 0, 3, 2, 6), 0);
        Due.fine(x, "the empty set", x.knockSet(), 0);
    }
}
