/** The edges of what goes through, hour by hour, and of whose it is: promises 19 to 21. */
public final class FlowBoundsTest {
    private static final String TERMS = "Terms";
    private static final int ALL = FlueHouse.NONE;
    private static final int COMES = 0;
    private static final int HELD = 1;
    private static final int FLIES = 2;
    private static final int LAYER = 3;
    private static final int ASH = 4;

    private FlowBoundsTest() {
    }

    public static void main(String[] args) {
        hourByHour();
        cleanerByCleaner();
        comes();
        knockedOnce();
        knockedFirst();
        flies();
        restIsAsh();
        itsHundredths();
        halfOfPlates();
        layerOfPlates();
        fullCloth();
        holesLess();
        warmSpray();
        offHoldsNothing();
        leftOver();
        leftOverApart();
        layerOrAsh();
        passes();
        greatestRests();
        upOfEachSize();
        upAsked();
        atAsked();
        atStatuses();
        whoseParts();
        whoseRests();
        nobodys();
        whoseStatuses();
        mostOfAll();
        Due.end();
    }

    private static void hourByHour() {
        Due.says(TERMS, "STEPPED is it HOUR by HOUR from 0 on");
        FlueHouse x = Due.rightPlant(1, "plates p holds 100,0,0,0 layer 9999 flies 0;works w at p;");
        x.row(0, 0, 0, 3, 0);
        x.row(0, 47, 0, 4, 0);
        Due.fine(x, "the layer at the end of 0", x.at(0, 0, 0, LAYER), 3);
        Due.fine(x, "the layer at the end of 46", x.at(0, 46, 0, LAYER), 3);
        Due.fine(x, "the layer at the end of 47", x.at(0, 47, 0, LAYER), 7);
        Due.fine(x, "the layer at the end of 0, asked again", x.at(0, 0, 0, LAYER), 3);
        x.row(0, 0, 0, 5, 0);
        Due.fine(x, "an hour that was asked about is stepped anew", x.at(0, 47, 0, LAYER), 9);
        x.knock(0, 0, 0);
        Due.fine(x, "in hour 0 there is no layer yet", x.at(0, 0, 0, ASH), 0);
        Due.fine(x, "nothing was knocked off", x.at(0, 47, 0, LAYER), 9);
    }

    private static void cleanerByCleaner() {
        Due.says(TERMS, "in each CLEANER by CLEANER: of each SIZE");
        FlueHouse x = Due.rightPlant(3, "plates a holds 100,0,0,0 layer 9999 flies 100;works w at a;"
            + "plates b holds 100,0,0,0 layer 9999 flies 100;plates c holds 100,0,0,0 layer 9999 flies 100;"
            + "join b to c share 100;join a to b share 100;");
        x.row(0, 0, 0, 10, 0);
        for (int c = 2; c >= 0; c--) {
            x.knock(c, 1, 0);
            x.knock(c, 2, 0);
        }
        // What flies off one comes to the next in the same hour, behind that one's own knock.
        int[][] layers = {{10, 0, 0}, {0, 10, 0}, {0, 0, 10}, {0, 0, 10}};
        int[][] flying = {{0, 0, 0}, {10, 0, 0}, {0, 10, 0}, {0, 0, 0}};
        for (int hour = 0; hour < 4; hour++) {
            for (int c = 0; c < 3; c++) {
                Due.fine(x, "the layer of " + c + " in hour " + hour, x.at(c, hour, 0, LAYER), layers[hour][c]);
                Due.fine(x, "what flies off " + c + " in hour " + hour, x.at(c, hour, 0, FLIES), flying[hour][c]);
            }
            Due.fine(x, "up in hour " + hour, x.up(hour, ALL), 0);
        }
        eightInOneHour();
        sizesApart();
    }

    private static void eightInOneHour() {
        StringBuilder text = new StringBuilder();
        for (char c = 'a'; c <= 'h'; c++) {
            text.append("cyclone ").append(c).append(" holds 50,0,0,0;");
        }
        for (char c = 'g'; c >= 'a'; c--) {
            text.append("join ").append(c).append(" to ").append((char) (c + 1)).append(" share 100;");
        }
        FlueHouse x = Due.rightPlant(8, text + "works w at a;");
        x.row(0, 47, 0, 256, 0);
        for (int c = 0; c < 8; c++) {
            Due.fine(x, "comes to " + c, x.at(c, 47, 0, COMES), 256 >> c);
            Due.fine(x, "held by " + c, x.at(c, 47, 0, HELD), 128 >> c);
        }
        Due.fine(x, "up", x.up(47, 0), 1);
    }

    private static void sizesApart() {
        FlueHouse x = Due.rightPlant(2, "cyclone a holds 50,0,100,25;cyclone b holds 100,0,0,50;join a to b share 100;"
            + "works w at a;");
        for (int size = 0; size < 4; size++) {
            x.row(0, 0, size, 40, 0);
        }
        int[] comes = {20, 40, 0, 30};
        int[] held = {20, 0, 0, 15};
        for (int size = 0; size < 4; size++) {
            Due.fine(x, "comes to b of size " + size, x.at(1, 0, size, COMES), comes[size]);
            Due.fine(x, "held by b of size " + size, x.at(1, 0, size, HELD), held[size]);
            Due.fine(x, "up of size " + size, x.up(0, size), comes[size] - held[size]);
        }
    }

    private static void comes() {
        Due.says(TERMS, "what COMES to it is that of its WORKS, and what came by WAYS of others in this HOUR.");
        FlueHouse x = Due.rightPlant(3, "cyclone a holds 0,0,0,0;cyclone b holds 0,0,0,0;cyclone c holds 50,0,0,0;"
            + "join a to b share 100;join b to c share 100;works u at a;works v at c;works w at c;");
        x.row(0, 5, 0, 100, 0);
        x.row(1, 5, 0, 20, 0);
        x.row(2, 5, 0, 3, 0);
        Due.fine(x, "to a", x.at(0, 5, 0, COMES), 100);
        Due.fine(x, "to b in the same hour", x.at(1, 5, 0, COMES), 100);
        Due.fine(x, "to c in the same hour, and of two works", x.at(2, 5, 0, COMES), 123);
        Due.fine(x, "nothing in the hour behind", x.at(2, 6, 0, COMES), 0);
        Due.fine(x, "nothing in the hour ahead", x.at(2, 4, 0, COMES), 0);
        Due.fine(x, "up", x.up(5, 0), 62);
        x = Due.rightPlant(3, "cyclone a holds 0,0,0,0;cyclone b holds 0,0,0,0;cyclone c holds 0,0,0,0;"
            + "join a to b share 50,c share 50;join b to c share 50,stack share 50;works w at a;works v at b;");
        for (int size = 0; size < 4; size++) {
            x.row(0, 47, size, 40 + 4 * size, 0);
            x.row(1, 47, size, 100, 0);
        }
        for (int size = 0; size < 4; size++) {
            int half = 20 + 2 * size;
            Due.fine(x, "to a of size " + size, x.at(0, 47, size, COMES), 2 * half);
            Due.fine(x, "to b of size " + size, x.at(1, 47, size, COMES), half + 100);
            Due.fine(x, "to c of size " + size, x.at(2, 47, size, COMES), half + (half + 100) / 2);
        }
    }

    private static void knockedOnce() {
        Due.says(TERMS, "If it is KNOCKED in this HOUR (once, however often told)");
        FlueHouse x = Due.rightPlant(1, "plates p holds 100,0,0,0 layer 9999 flies 50;works w at p;");
        x.row(0, 0, 0, 100, 0);
        x.knock(0, 1, 0);
        Due.fine(x, "flies, told once", x.at(0, 1, 0, FLIES), 50);
        x.knock(0, 1, 0);
        x.knock(0, 1, 3);
        Due.fine(x, "flies, told three times", x.at(0, 1, 0, FLIES), 50);
        Due.fine(x, "ash, told three times", x.at(0, 1, 0, ASH), 50);
        Due.fine(x, "up, told three times", x.up(1, 0), 50);
        Due.fill(x, 0, 0, 1);
        Due.fine(x, "supposed in that hour, too", x.knocks(0, 0, 1, 1, 47), 50);
    }

    private static void knockedFirst() {
        Due.says(TERMS, "first of its LAYER of each SIZE");
        FlueHouse x = Due.rightPlant(1, "plates p holds 100,100,0,0 layer 10 flies 30;works w at p;");
        x.row(0, 0, 0, 10, 0);
        x.row(0, 0, 1, 20, 0);
        x.row(0, 1, 0, 40, 0);
        Due.fine(x, "not knocked: half is held", x.at(0, 1, 0, HELD), 20);
        x.knock(0, 1, 0);
        Due.fine(x, "knocked ahead of holding: all is held", x.at(0, 1, 0, HELD), 40);
        Due.fine(x, "3 of 10 fly", x.at(0, 1, 0, FLIES), 3);
        Due.fine(x, "6 of 20 fly", x.at(0, 1, 1, FLIES), 6);
        Due.fine(x, "what flies is not held again", x.at(0, 1, 0, LAYER), 40);
        Due.fine(x, "it is up", x.up(1, ALL), 9);
    }

    private static void flies() {
        Due.says(TERMS, "so many hundredths as flies says (rounded down) fly (of a cloth none)");
        int[] hundredths = {0, 1, 33, 99, 100};
        int[] ofHundred = {0, 1, 33, 99, 100};
        int[] ofThree = {0, 0, 0, 2, 3};
        for (int i = 0; i < hundredths.length; i++) {
            FlueHouse x = Due.rightPlant(1, "plates p holds 100,100,0,0 layer 9999 flies " + hundredths[i] + ";works w at p;");
            x.row(0, 0, 0, 100, 0);
            x.row(0, 0, 1, 3, 0);
            x.knock(0, 1, 0);
            Due.fine(x, hundredths[i] + " of 100", x.at(0, 1, 0, FLIES), ofHundred[i]);
            Due.fine(x, hundredths[i] + " of 3, rounded down", x.at(0, 1, 1, FLIES), ofThree[i]);
            Due.fine(x, "nothing of a size without a layer", x.at(0, 1, 2, FLIES), 0);
        }
        FlueHouse x = Due.rightPlant(1, "cloth c holds 100,0,0,0 full 9999;works w at c;");
        x.row(0, 0, 0, 100, 0);
        x.knock(0, 1, 0);
        Due.fine(x, "of a cloth none", x.at(0, 1, ALL, FLIES), 0);
        Due.fine(x, "of a cloth nothing is up", x.up(1, ALL), 0);
    }

    private static void restIsAsh() {
        Due.says(TERMS, "the rest of its LAYER is ASH then.");
        FlueHouse x = Due.rightPlant(2, "plates p holds 100,100,0,0 layer 9999 flies 33;cloth c holds 100,0,0,0 full 9999;"
            + "works w at p;works v at c;");
        x.row(0, 0, 0, 100, 0);
        x.row(0, 0, 1, 2, 0);
        x.row(1, 0, 0, 100, 0);
        x.knock(0, 2, 0);
        x.knock(1, 2, 0);
        Due.fine(x, "no ash ahead", x.at(0, 1, ALL, ASH), 0);
        Due.fine(x, "67 of 100", x.at(0, 2, 0, ASH), 67);
        Due.fine(x, "2 of 2", x.at(0, 2, 1, ASH), 2);
        Due.fine(x, "no layer behind", x.at(0, 2, ALL, LAYER), 0);
        Due.fine(x, "all of a cloth", x.at(1, 2, 0, ASH), 100);
        Due.fine(x, "no layer of the cloth behind", x.at(1, 2, ALL, LAYER), 0);
        x.knock(0, 3, 0);
        Due.fine(x, "a knock without a layer", x.at(0, 3, ALL, ASH), 69);
        Due.fine(x, "nothing flies", x.at(0, 3, ALL, FLIES), 0);
    }

    private static void itsHundredths() {
        Due.says(TERMS, "It HOLDS of each SIZE its hundredths");
        FlueHouse x = Due.rightPlant(4, "cyclone a holds 0,1,99,100;plates b holds 100,0,1,99 layer 9999 flies 0;"
            + "cloth c holds 99,100,0,1 full 9999;spray d holds 1,99,100,0 warm 1;"
            + "works p at a;works q at b;works r at c;works s at d;");
        int[][] hundredths = {{0, 1, 99, 100}, {100, 0, 1, 99}, {99, 100, 0, 1}, {1, 99, 100, 0}};
        for (int c = 0; c < 4; c++) {
            for (int size = 0; size < 4; size++) {
                x.row(c, 0, size, 100, 0);
                x.row(c, 1, size, 300, 0);
                Due.fine(x, "of 100", x.at(c, 0, size, HELD), hundredths[c][size]);
                Due.fine(x, "of 300", x.at(c, 1, size, HELD), 3 * hundredths[c][size]);
            }
        }
        for (int size = 0; size < 4; size++) {
            Due.fine(x, "what none of them holds is up", x.up(0, size), 200);
        }
    }

    private static void halfOfPlates() {
        Due.says(TERMS, "of plates half of them (rounded down)");
        FlueHouse x = Due.rightPlant(1, "plates p holds 100,51,1,0 layer 1 flies 0;works w at p;");
        for (int size = 0; size < 4; size++) {
            x.row(0, 0, size, 1000, 0);
            x.row(0, 1, size, 1000, 0);
        }
        int[] whole = {1000, 510, 10, 0};
        int[] half = {500, 250, 0, 0};
        for (int size = 0; size < 4; size++) {
            Due.fine(x, "of size " + size, x.at(0, 0, size, HELD), whole[size]);
            Due.fine(x, "half of size " + size, x.at(0, 1, size, HELD), half[size]);
        }
    }

    private static void layerOfPlates() {
        Due.says(TERMS, "if its LAYER, all SIZES together, is as much as layer, or more");
        for (int much = 99; much <= 101; much++) {
            FlueHouse x = Due.rightPlant(1, "plates p holds 100,100,100,100 layer 100 flies 0;works w at p;");
            x.row(0, 0, 0, 25, 0);
            x.row(0, 0, 1, 25, 0);
            x.row(0, 0, 2, 25, 0);
            x.row(0, 0, 3, much - 75, 0);
            x.row(0, 5, 0, 10, 0);
            Due.fine(x, "held with a layer of " + much, x.at(0, 5, 0, HELD), much < 100 ? 10 : 5);
        }
        FlueHouse x = Due.rightPlant(1, "plates p holds 100,100,100,100 layer 100 flies 0;works w at p;");
        x.row(0, 0, 0, 99, 0);
        x.row(0, 1, 0, 500, 0);
        x.row(0, 1, 1, 500, 0);
        x.row(0, 2, 3, 10, 0);
        Due.fine(x, "what an hour brings does not count in it", x.at(0, 1, 0, HELD), 500);
        Due.fine(x, "nor for its next size", x.at(0, 1, 1, HELD), 500);
        Due.fine(x, "but in the hour behind", x.at(0, 2, 3, HELD), 5);
    }

    private static void fullCloth() {
        Due.says(TERMS, "of a cloth, if its LAYER is as much as full, or more, 0");
        for (int much = 99; much <= 101; much++) {
            FlueHouse x = Due.rightPlant(1, "cloth c holds 100,100,100,100 full 100;works w at c;");
            x.row(0, 0, 0, 50, 0);
            x.row(0, 0, 3, much - 50, 0);
            x.row(0, 5, 1, 10, 0);
            Due.fine(x, "held with a layer of " + much, x.at(0, 5, 1, HELD), much < 100 ? 10 : 0);
            Due.fine(x, "up with a layer of " + much, x.up(5, 1), much < 100 ? 0 : 10);
            Due.fine(x, "the layer stays", x.at(0, 47, ALL, LAYER), much < 100 ? much + 10 : much);
            x.knock(0, 5, 0);
            Due.fine(x, "knocked it holds", x.at(0, 5, 1, HELD), 10);
        }
        FlueHouse x = Due.rightPlant(1, "cloth c holds 100,0,0,0 full 1;works w at c;");
        x.row(0, 0, 0, 9999, 0);
        x.row(0, 1, 0, 1, 0);
        Due.fine(x, "an empty cloth holds all of an hour", x.at(0, 0, 0, HELD), 9999);
        Due.fine(x, "and nothing in the next", x.at(0, 1, 0, HELD), 0);
    }

    private static void holesLess() {
        Due.says(TERMS, "else less all its HOLES by then (0 at least)");
        int[] hole = {29, 30, 31, 100};
        int[] held = {1, 0, 0, 0};
        for (int i = 0; i < hole.length; i++) {
            FlueHouse x = Due.rightPlant(1, "cloth c holds 30,0,0,100 full 9999;works w at c;");
            x.row(0, 0, 0, 100, 0);
            x.row(0, 1, 0, 100, 0);
            x.row(0, 1, 1, 100, 0);
            x.hole(0, 1, hole[i], 0);
            Due.fine(x, "ahead of the hole", x.at(0, 0, 0, HELD), 30);
            Due.fine(x, "30 less " + hole[i], x.at(0, 1, 0, HELD), held[i]);
            Due.fine(x, "0 less " + hole[i], x.at(0, 1, 1, HELD), 0);
        }
        FlueHouse x = Due.rightPlant(1, "cloth c holds 50,0,0,0 full 9999;works w at c;");
        for (int hour = 0; hour < 5; hour++) {
            x.row(0, hour, 0, 100, 0);
        }
        x.hole(0, 1, 20, 0);
        x.hole(0, 2, 29, 0);
        x.hole(0, 3, 1, 0);
        x.hole(0, 4, 100, 0);
        int[] all = {50, 30, 1, 0, 0};
        for (int hour = 0; hour < 5; hour++) {
            Due.fine(x, "all holes by hour " + hour, x.at(0, hour, 0, HELD), all[hour]);
        }
        x.hole(0, 4, 100, 0);
        Due.fine(x, "more than all", x.at(0, 4, 0, HELD), 0);
        FlueHouse y = Due.rightPlant(8, cloths("abcdefgh") + "works w at a;works v at b;works u at h;");
        for (int hour = 0; hour < 48; hour += 47) {
            for (int w = 0; w < 3; w++) {
                y.row(w, hour, 0, 100, 0);
            }
        }
        y.hole(0, 0, 10, 0);
        y.hole(7, 47, 20, 0);
        int[] own = {90, 100, 100, 90, 100, 80};
        for (int i = 0; i < 6; i++) {
            int c = i % 3 == 2 ? 7 : i % 3;
            Due.fine(y, "its own holes alone, in hour " + i / 3 * 47, y.at(c, i / 3 * 47, 0, HELD), own[i]);
        }
        Due.fine(x, "a knock mends no hole", x.knock(0, 2, 0));
        Due.fine(x, "all holes by hour 2 still", x.at(0, 2, 0, HELD), 1);
    }

    private static String cloths(String letters) {
        StringBuilder s = new StringBuilder();
        for (char c : letters.toCharArray()) {
            s.append("cloth ").append(c).append(" holds 100,0,0,0 full 9999;");
        }
        return s.toString();
    }

    private static void warmSpray() {
        Due.says(TERMS, "of a spray 0, if WARMTH is as much as warm, or more");
        int[][] cases = {{30, 29, 10}, {30, 30, 0}, {30, 31, 0}, {0, 0, 0}, {1, 0, 10}, {9999, 9998, 10}, {9999, 9999, 0}};
        for (int[] c : cases) {
            FlueHouse x = Due.rightPlant(1, "spray s holds 100,0,0,0 warm " + c[0] + ";works w at s;");
            x.row(0, 7, 0, 10, 0);
            x.warmth(7, c[1]);
            Due.fine(x, "warm " + c[0] + ", warmth " + c[1], x.at(0, 7, 0, HELD), c[2]);
            Due.fine(x, "what is not held is up", x.up(7, 0), 10 - c[2]);
        }
        FlueHouse x = Due.rightPlant(3, "cyclone a holds 100,0,0,0;plates b holds 100,0,0,0 layer 5 flies 1;"
            + "cloth c holds 100,0,0,0 full 5;works p at a;works q at b;works r at c;");
        x.warmth(0, 9999);
        for (int c = 0; c < 3; c++) {
            x.row(c, 0, 0, 10, 0);
            Due.fine(x, "others do not mind", x.at(c, 0, 0, HELD), 10);
        }
    }

    private static void offHoldsNothing() {
        Due.says(TERMS, "0 if it is OFF.");
        FlueHouse x = Due.rightPlant(1, "plates p holds 100,0,0,0 layer 9999 flies 50;works w at p;");
        x.row(0, 0, 0, 10, 0);
        x.row(0, 1, 0, 10, 0);
        x.row(0, 2, 0, 10, 0);
        x.off(0, 1, 1, 0);
        x.knock(0, 1, 0);
        Due.fine(x, "nothing is held", x.at(0, 1, 0, HELD), 0);
        Due.fine(x, "it is knocked all the same", x.at(0, 1, 0, FLIES), 5);
        Due.fine(x, "all is up", x.up(1, 0), 15);
        Due.fine(x, "it holds again", x.at(0, 2, 0, HELD), 10);
    }

    private static void leftOver() {
        Due.says(TERMS, "HELD is what COMES times that by 100, rounded down, with what was left over of that SIZE in "
            + "this CLEANER ahead (the rest of that division is left over then).");
        FlueHouse x = Due.rightPlant(1, "cyclone a holds 33,99,50,1;works w at a;");
        for (int hour = 0; hour < 8; hour++) {
            x.row(0, hour, 0, 1, 0);
            x.row(0, hour, 1, 1, 0);
        }
        int[] of33 = {0, 0, 0, 1, 0, 0, 1, 0};
        int[] of99 = {0, 1, 1, 1, 1, 1, 1, 1};
        for (int hour = 0; hour < 8; hour++) {
            Due.fine(x, "33 hundredths in hour " + hour, x.at(0, hour, 0, HELD), of33[hour]);
            Due.fine(x, "99 hundredths in hour " + hour, x.at(0, hour, 1, HELD), of99[hour]);
        }
        x.row(0, 10, 2, 1, 0);
        x.row(0, 40, 2, 1, 0);
        Due.fine(x, "50 are left over", x.at(0, 10, 2, HELD), 0);
        Due.fine(x, "for 30 hours", x.at(0, 40, 2, HELD), 1);
        x.row(0, 20, 3, 99, 0);
        x.row(0, 21, 3, 1, 0);
        x.row(0, 22, 3, 100, 0);
        Due.fine(x, "99 are left over", x.at(0, 20, 3, HELD), 0);
        Due.fine(x, "and 1 make 100", x.at(0, 21, 3, HELD), 1);
        Due.fine(x, "and none are left over", x.at(0, 22, 3, HELD), 1);
    }

    private static void leftOverApart() {
        Due.says(TERMS, "with what was left over of that SIZE in this CLEANER ahead");
        FlueHouse x = Due.rightPlant(2, "cyclone a holds 50,50,0,0;cyclone b holds 50,50,0,0;works w at a;works v at b;");
        x.row(0, 0, 0, 1, 0);
        x.row(0, 1, 1, 1, 0);
        x.row(1, 2, 0, 1, 0);
        Due.fine(x, "of another size", x.at(0, 1, 1, HELD), 0);
        Due.fine(x, "in another cleaner", x.at(1, 2, 0, HELD), 0);
        x.row(0, 3, 0, 1, 0);
        Due.fine(x, "of that size in this cleaner", x.at(0, 3, 0, HELD), 1);
        x.off(0, 1, 2, 0);
        Due.fine(x, "being off leaves it", x.at(0, 3, 0, HELD), 1);
        FlueHouse y = Due.rightPlant(1, "plates p holds 50,100,0,0 layer 1 flies 0;works w at p;");
        y.row(0, 0, 0, 1, 0);
        y.row(0, 0, 1, 5, 0);
        y.row(0, 1, 0, 2, 0);
        Due.fine(y, "50 are left over, and 2 times 25 come to them", y.at(0, 1, 0, HELD), 1);
        y.knock(0, 1, 0);
        y.row(0, 1, 0, 1, 0);
        Due.fine(y, "a knock leaves them", y.at(0, 1, 0, HELD), 1);
        y.asof(0);
        Due.fine(y, "asked anew they are the same", y.at(0, 1, 0, HELD), 1);
    }

    private static void layerOrAsh() {
        Due.says(TERMS, "HELD comes to its LAYER (plates, cloth), or is ASH at once.");
        FlueHouse x = Due.rightPlant(4, "cyclone a holds 100,0,0,0;plates b holds 100,0,0,0 layer 9999 flies 1;"
            + "cloth c holds 100,0,0,0 full 9999;spray d holds 100,0,0,0 warm 1;"
            + "works p at a;works q at b;works r at c;works s at d;");
        for (int c = 0; c < 4; c++) {
            x.row(c, 0, 0, 10 + c, 0);
            x.row(c, 2, 0, 10, 0);
            boolean keeps = c == 1 || c == 2;
            Due.fine(x, "the layer of " + c, x.at(c, 0, 0, LAYER), keeps ? 10 + c : 0);
            Due.fine(x, "the ash of " + c, x.at(c, 0, 0, ASH), keeps ? 0 : 10 + c);
            Due.fine(x, "the layer of " + c + " later on", x.at(c, 2, 0, LAYER), keeps ? 20 + c : 0);
            Due.fine(x, "the ash of " + c + " later on", x.at(c, 2, 0, ASH), keeps ? 0 : 20 + c);
        }
    }

    private static void passes() {
        Due.says(TERMS, "What COMES less HELD, and what flies, PASSES by its WAYS");
        FlueHouse x = Due.rightPlant(2, "plates p holds 60,0,0,0 layer 9999 flies 50;cyclone c holds 0,0,0,0;"
            + "join p to c share 50,stack share 50;works w at p;");
        x.row(0, 0, 0, 10, 0);
        x.row(0, 1, 0, 10, 0);
        x.knock(0, 1, 0);
        Due.fine(x, "4 pass: 2 to c", x.at(1, 0, 0, COMES), 2);
        Due.fine(x, "4 pass and 3 fly: 7 together, 4 to c", x.at(1, 1, 0, COMES), 4);
        Due.fine(x, "and all 7 are up", x.up(1, 0), 7);
    }

    private static void greatestRests() {
        Due.says(TERMS, "each gets its hundredths of it, rounded down, what is left by one to the greatest rests "
            + "(of like ones the first).");
        waysGet("b share 50,c share 50", 1, 1, 0, 0);
        waysGet("c share 50,b share 50", 1, 0, 1, 0);
        waysGet("stack share 50,b share 50", 1, 0, 0, 1);
        waysGet("b share 50,stack share 50", 1, 1, 0, 0);
        waysGet("b share 49,c share 51", 1, 0, 1, 0);
        waysGet("b share 33,c share 33,stack share 34", 1, 0, 0, 1);
        waysGet("b share 33,c share 33,stack share 34", 2, 1, 0, 1);
        waysGet("stack share 33,c share 33,b share 34", 2, 1, 0, 1);
        waysGet("b share 33,c share 33,stack share 34", 3, 1, 1, 1);
        waysGet("b share 33,c share 33,stack share 34", 100, 33, 33, 34);
        waysGet("b share 0,c share 100", 7, 0, 7, 0);
        waysGet("b share 100,c share 0", 7, 7, 0, 0);
        waysGet("b share 1,stack share 99", 49, 0, 0, 49);
        waysGet("b share 1,stack share 99", 50, 1, 0, 49);
        waysGet("stack share 99,b share 1", 50, 0, 0, 50);
        waysGet("b share 1,stack share 99", 51, 1, 0, 50);
        waysGet("b share 25,c share 25,stack share 50", 2, 1, 0, 1);
        waysGet("b share 25,c share 25,stack share 50", 3, 1, 1, 1);
        eightWays();
        fewerWaysBehindMore();
    }

    private static void eightWays() {
        FlueHouse x = Due.rightPlant(8, cloths("abcdefgh").replace("holds 100", "holds 0")
            + "join a to h share 13,g share 13,f share 13,e share 13,d share 12,c share 12,b share 12,stack share 12;"
            + "works w at a;");
        // 13 by 100 and 12 by 100 of each: what is left goes by the first ways first.
        int[] order = {7, 6, 5, 4, 3, 2, 1};
        for (int many = 1; many <= 8; many++) {
            x.row(0, many, 0, many, 0);
            for (int way = 0; way < 7; way++) {
                Due.fine(x, many + " by eight ways, way " + way, x.at(order[way], many, 0, COMES), way < many ? 1 : 0);
            }
        }
        Due.fine(x, "the eighth goes by the last way", x.up(8, 0), 8);
    }

    /** What was left in the ways of one cleaner has no part in those of the next. */
    private static void fewerWaysBehindMore() {
        FlueHouse x = Due.rightPlant(4, cloths("abcd").replace("holds 100", "holds 0")
            + "join a to stack share 34,c share 33,d share 33;join b to c share 50,d share 50;works w at a;works v at b;");
        x.row(0, 0, 0, 2, 0);
        x.row(1, 0, 0, 1, 0);
        Due.fine(x, "to c: one of a, and the one of b", x.at(2, 0, 0, COMES), 2);
        Due.fine(x, "to d: none", x.at(3, 0, 0, COMES), 0);
        Due.fine(x, "up: all three", x.up(0, 0), 3);
    }

    private static void waysGet(String ways, int many, int b, int c, int stack) {
        FlueHouse x = Due.rightPlant(3, "cyclone a holds 0,0,0,0;cyclone b holds 100,0,0,0;cyclone c holds 100,0,0,0;"
            + "join a to " + ways + ";works w at a;");
        x.row(0, 0, 0, many, 0);
        Due.fine(x, many + " by " + ways + ": to b", x.at(1, 0, 0, COMES), b);
        Due.fine(x, many + " by " + ways + ": to c", x.at(2, 0, 0, COMES), c);
        Due.fine(x, many + " by " + ways + ": up", x.up(0, 0), stack);
    }

    private static void upOfEachSize() {
        Due.says(TERMS, "UP is what comes to the stack in an HOUR, of each SIZE.");
        FlueHouse x = Due.rightPlant(2, "cyclone a holds 0,0,0,50;cyclone b holds 0,0,0,0;works w at a;works v at b;");
        for (int size = 0; size < 4; size++) {
            x.row(0, 47, size, 10 * size, 0);
            x.row(1, 47, size, 1, 0);
        }
        int[] up = {1, 11, 21, 16};
        for (int size = 0; size < 4; size++) {
            Due.fine(x, "size " + size, x.up(47, size), up[size]);
            Due.fine(x, "size " + size + " in the hour ahead", x.up(46, size), 0);
        }
    }

    // ---- the promises

    private static void upAsked() {
        Due.says("Promise 19", "UP in an HOUR of a SIZE (NONE: of all) (1).");
        FlueHouse x = Due.rightPlant(1, "cyclone a holds 0,0,0,0;works w at a;");
        for (int size = 0; size < 4; size++) {
            x.row(0, 47, size, 9999, 0);
        }
        Due.fine(x, "of all", x.up(47, FlueHouse.NONE), 39996);
        Due.fine(x, "of all in another hour", x.up(0, FlueHouse.NONE), 0);
        Due.numberWithin(x, "up() in hour", 0, 47, v -> x.up(v, 3));
        Due.numberWithin(x, "up() of size", FlueHouse.NONE, 3, v -> x.up(47, v));
    }

    private static void atAsked() {
        Due.says("Promise 20", "Of a CLEANER in an HOUR and a SIZE (NONE: of all), what 0: what COMES, 1: HELD, 2: what "
            + "flies, 3: its LAYER at the HOUR's end, 4: its ASH from 0 to the HOUR's end");
        FlueHouse x = Due.rightPlant(1, "plates p holds 50,100,0,0 layer 9999 flies 10;works w at p;");
        x.row(0, 0, 0, 100, 0);
        x.row(0, 0, 1, 20, 0);
        x.row(0, 1, 0, 10, 0);
        x.row(0, 1, 2, 7, 0);
        x.knock(0, 1, 0);
        x.row(0, 2, 0, 40, 0);
        x.knock(0, 3, 0);
        int[][][] due = {
            {{100, 20, 0, 0, 120}, {50, 20, 0, 0, 70}, {0, 0, 0, 0, 0}, {50, 20, 0, 0, 70}, {0, 0, 0, 0, 0}},
            {{10, 0, 7, 0, 17}, {5, 0, 0, 0, 5}, {5, 2, 0, 0, 7}, {5, 0, 0, 0, 5}, {45, 18, 0, 0, 63}},
            {{40, 0, 0, 0, 40}, {20, 0, 0, 0, 20}, {0, 0, 0, 0, 0}, {25, 0, 0, 0, 25}, {45, 18, 0, 0, 63}},
            {{0, 0, 0, 0, 0}, {0, 0, 0, 0, 0}, {2, 0, 0, 0, 2}, {0, 0, 0, 0, 0}, {68, 18, 0, 0, 86}}};
        for (int hour = 3; hour >= 0; hour--) {
            for (int what = 0; what < 5; what++) {
                for (int size = 0; size < 4; size++) {
                    Due.fine(x, "at(0, " + hour + ", " + size + ", " + what + ")", x.at(0, hour, size, what),
                        due[hour][what][size]);
                }
                Due.fine(x, "at(0, " + hour + ", NONE, " + what + ")", x.at(0, hour, ALL, what), due[hour][what][4]);
            }
        }
        Due.fine(x, "ash at the end of 47", x.at(0, 47, ALL, ASH), 86);
    }

    private static void atStatuses() {
        Due.says("Promise 20", "its ASH from 0 to the HOUR's end (1).");
        FlueHouse x = Due.rightPlant(2, "cyclone a holds 0,0,0,0;cyclone b holds 0,0,0,0;");
        Due.numberWithin(x, "at() of cleaner", 0, 1, v -> x.at(v, 0, 0, 0));
        Due.numberWithin(x, "at() in hour", 0, 47, v -> x.at(1, v, 0, 0));
        Due.numberWithin(x, "at() of size", FlueHouse.NONE, 3, v -> x.at(1, 0, v, 0));
        Due.numberWithin(x, "at() what", 0, 4, v -> x.at(1, 0, 0, v));
        FlueHouse y = new FlueHouse();
        Due.refused(y, "at() without a plant", y.at(0, 0, 0, 0), 1);
    }

    private static void whoseParts() {
        Due.says(TERMS, "WHOSE: what is UP in an HOUR of a SIZE is parted among WORKS by their portions of that SIZE in "
            + "that HOUR");
        FlueHouse x = Due.rightPlant(2, "cyclone a holds 50,0,0,0;cyclone b holds 100,0,0,0;works w at a;works v at b;");
        x.row(0, 0, 0, 100, 0);
        x.row(1, 0, 0, 300, 0);
        x.row(1, 0, 1, 40, 0);
        x.row(0, 1, 0, 60, 0);
        Due.fine(x, "50 are up: a quarter is w's, 12 and a half", x.whose(0, 0, 0), 13);
        Due.fine(x, "three quarters are v's, though all of its dust was held", x.whose(1, 0, 0), 37);
        Due.fine(x, "another size", x.whose(1, 0, 1), 40);
        Due.fine(x, "another size of one who has none", x.whose(0, 0, 1), 0);
        Due.fine(x, "another hour", x.whose(0, 1, 0), 30);
        Due.fine(x, "another hour of one who has none", x.whose(1, 1, 0), 0);
    }

    private static void whoseRests() {
        Due.says(TERMS, "(rounded down, what is left by one to the greatest rests, of like ones the lesser; nobody's, "
            + "if none have any)");
        whoseOf(new int[] {1, 1}, 50, new int[] {1, 0});
        whoseOf(new int[] {1, 2}, 67, new int[] {0, 1});
        whoseOf(new int[] {2, 1}, 67, new int[] {1, 0});
        whoseOf(new int[] {1, 1, 1}, 50, new int[] {1, 1, 0});
        whoseOf(new int[] {1, 1, 1}, 67, new int[] {1, 0, 0});
        whoseOf(new int[] {1, 1, 1, 1}, 25, new int[] {1, 1, 1, 0});
        whoseOf(new int[] {0, 1, 1, 0}, 50, new int[] {0, 1, 0, 0});
        whoseOf(new int[] {5, 3, 3, 0}, 0, new int[] {5, 3, 3, 0});
        // 6 of 11 are up: 30, 18 and 18 by 11 are 2, 1 and 1 with rests of 8, 7 and 7.
        whoseOf(new int[] {5, 3, 3, 0}, 50, new int[] {3, 2, 1, 0});
        // 7 of 9 are up: 7 by 9, 14 by 9 and 42 by 9 are 0, 1 and 4 with rests of 7, 5 and 6.
        whoseOf(new int[] {1, 2, 6, 0}, 23, new int[] {1, 1, 5, 0});
        whoseOf(new int[] {9999, 9999, 9999, 9999}, 0, new int[] {9999, 9999, 9999, 9999});
        whoseOf(new int[] {1, 9999, 9999, 9999}, 100, new int[] {0, 0, 0, 0});
    }

    private static void whoseOf(int[] portions, int holds, int[] due) {
        StringBuilder works = new StringBuilder();
        for (int w = 0; w < portions.length; w++) {
            works.append("works ").append((char) ('p' + w)).append(" at a;");
        }
        FlueHouse x = Due.rightPlant(1, "cyclone a holds " + holds + ",0,0,0;" + works);
        for (int w = 0; w < portions.length; w++) {
            x.row(w, 0, 0, portions[w], 0);
        }
        for (int w = 0; w < portions.length; w++) {
            Due.fine(x, "works " + w + " of " + java.util.Arrays.toString(portions) + ", holds " + holds, x.whose(w, 0, 0),
                due[w]);
        }
    }

    private static void nobodys() {
        Due.says(TERMS, "nobody's, if none have any");
        FlueHouse x = Due.rightPlant(1, "plates p holds 100,0,0,0 layer 9999 flies 100;works w at p;works v at p;");
        x.row(0, 0, 0, 9, 0);
        x.knock(0, 1, 0);
        Due.fine(x, "9 are up", x.up(1, 0), 9);
        Due.fine(x, "not w's", x.whose(0, 1, 0), 0);
        Due.fine(x, "not v's", x.whose(1, 1, 0), 0);
        x.row(1, 1, 0, 1, 0);
        Due.fine(x, "v has one portion: all is v's", x.whose(1, 1, 0), 9);
        x.row(1, 1, 0, 0, 0);
        Due.fine(x, "v has none again", x.whose(1, 1, 0), 0);
    }

    private static void whoseStatuses() {
        Due.says("Promise 21", "WHOSE: that of WORKS (1).");
        FlueHouse x = Due.rightPlant(1, "cyclone a holds 0,0,0,0;works w at a;works v at a;");
        Due.numberWithin(x, "whose() of works", 0, 1, v -> x.whose(v, 0, 0));
        Due.numberWithin(x, "whose() in hour", 0, 47, v -> x.whose(1, v, 0));
        Due.numberWithin(x, "whose() of size", 0, 3, v -> x.whose(1, 0, v));
        FlueHouse y = Due.rightPlant(1, "cyclone a holds 0,0,0,0;");
        Due.refused(y, "whose() without works", y.whose(0, 0, 0), 1);
    }

    /** As much as 200 rows can bring, kept in one layer, knocked off at once. */
    private static void mostOfAll() {
        Due.says(TERMS, "ROWS, at most 200: of WORKS in an HOUR so many portions (0 to 9,999) of a SIZE");
        FlueHouse x = Due.rightPlant(3, "plates a holds 100,100,100,100 layer 9999 flies 100;"
            + "plates b holds 100,100,100,100 layer 9999 flies 99;cyclone c holds 1,1,1,1;join a to b share 100;"
            + "join b to c share 99,stack share 1;works p at a;works q at a;works r at a;works s at a;");
        int told = 0;
        for (int hour = 0; hour < 47; hour++) {
            for (int w = 0; w < 4; w++) {
                x.row(w, hour, 0, 9999, 0);
                told++;
            }
            x.knock(0, hour, 0);
        }
        Due.is("rows", told, 188);
        // 40 knocks have room: to hour 39 all that comes in an hour flies in the next one.
        Due.fine(x, "hours 0 to 38 in one layer, a half of 38 of them", x.at(1, 39, 0, LAYER), 39996 + 38 * 19998);
        x = Due.rightPlant(1, "plates a holds 100,0,0,0 layer 9999 flies 100;works p at a;works q at a;works r at a;"
            + "works s at a;");
        for (int hour = 0; hour < 47; hour++) {
            for (int w = 0; w < 4; w++) {
                x.row(w, hour, 0, 9999, 0);
            }
        }
        x.knock(0, 47, 0);
        Due.fine(x, "all of hour 0, half of 46 others", x.at(0, 47, 0, FLIES), 39996 + 46 * 19998);
        Due.fine(x, "it is up", x.up(47, ALL), 39996 + 46 * 19998);
        x.row(0, 47, 0, 9999, 0);
        x.row(3, 47, 0, 9999, 0);
        Due.fine(x, "it is w's by a half", x.whose(0, 47, 0), (39996 + 46 * 19998) / 2);
    }
}
