import java.util.ArrayList;
import java.util.List;
import java.util.function.ToLongFunction;

/** What holds for all calls: which status comes first, that a refused call changes nothing, that none throws. */
public final class StatusBoundsTest {
    private static final String TERMS = "Terms";
    private static final int NONE = FlueHouse.NONE;
    private static final String PLANT = "cyclone a holds 10,20,30,40;plates b holds 60,60,60,60 layer 50 flies 30;"
        + "cloth c holds 90,90,90,90 full 200;spray d holds 50,50,50,50 warm 20;"
        + "join a to b share 50,c share 50;works w at a;works v at d;";
    private static final String LAWS = "k:fine over 2 below 10;l:small*2+warmth over 1 below 500;";
    private static final int[] EXTREMES = {Integer.MIN_VALUE, -1, 0, 1, 7, 47, 99, Integer.MAX_VALUE};

    private StatusBoundsTest() {
    }

    public static void main(String[] args) {
        numbersThatCantBe();
        missing();
        tooFew();
        tooMany();
        gone();
        noneSuch();
        otherSort();
        unlike();
        faults();
        fineElse();
        firstThatHolds();
        refusedChangesNothing();
        tapeBehindAFault();
        fiveHundredCalls();
        noneThrows();
        Due.end();
    }

    // ---- each status

    private static void numbersThatCantBe() {
        Due.says(TERMS, "1 a number that can't be; no such TRAY, CLEANER, WORKS, HOUR, SIZE, LAW.");
        FlueHouse x = used();
        Due.refused(x, "a number: warmth(0, 10000)", x.warmth(0, 10000), 1);
        Due.refused(x, "a tray: read(4, 0)", x.read(4, 0), 1);
        Due.refused(x, "a cleaner: cleaner(4, 0)", x.cleaner(4, 0), 1);
        Due.refused(x, "works: works(2)", x.works(2), 1);
        Due.refused(x, "an hour: up(48, 0)", x.up(48, 0), 1);
        Due.refused(x, "a size: up(0, 4)", x.up(0, 4), 1);
        Due.refused(x, "a law: broken(2, 0)", x.broken(2, 0), 1);
        Due.fine(x, "a tray: read(0, 0)", x.read(0, 0), 0);
        Due.fine(x, "a cleaner: cleaner(3, 0)", x.cleaner(3, 0), 3);
        Due.fine(x, "works: works(1)", x.works(1), 3);
        Due.fine(x, "a law: broken(1, 0)", x.broken(1, 0), 0);
    }

    private static void missing() {
        Due.says(TERMS, "2 the TRAY is MISSING.");
        FlueHouse x = used();
        Due.refused(x, "read(3, 0)", x.read(3, 0), 2);
        Due.refused(x, "write(3, 0, 0)", x.write(3, 0, 0), 2);
        Due.refused(x, "pour(3, 0, 0, 0, 0)", x.pour(3, 0, 0, 0, 0), 2);
        Due.refused(x, "torn(3, 0, 1, 0)", x.torn(3, 0, 1, 0), 2);
        Due.refused(x, "knocks(1, 3, 1, 1, 0)", x.knocks(1, 3, 1, 1, 0), 2);
        Due.refused(x, "rowOf(3, 1, 0, 0)", x.rowOf(3, 1, 0, 0), 2);
        Due.refused(x, "air(3, 1, 1, 0)", x.air(3, 1, 1, 0), 2);
        Due.refused(x, "gauge(3, 0, 1, 0)", x.gauge(3, 0, 1, 0), 2);
        x.tray(3, 0, 0);
        Due.refused(x, "a tray of none is not missing", x.read(3, 0), 3);
    }

    private static void tooFew() {
        Due.says(TERMS, "3 a place that the TRAY has not, or too few numbers.");
        FlueHouse x = used();
        x.tray(3, 3, 2);
        x.write(3, 0, 1);
        x.write(3, 1, 2);
        Due.refused(x, "read(3, 2)", x.read(3, 2), 3);
        Due.fine(x, "read(3, 1)", x.read(3, 1), 2);
        Due.refused(x, "write(3, 2, 0)", x.write(3, 2, 0), 3);
        Due.refused(x, "torn(3, 0, 3, 0)", x.torn(3, 0, 3, 0), 3);
        Due.fine(x, "torn(3, 0, 2, 0)", x.torn(3, 0, 2, 0), 0);
        Due.refused(x, "knocks(1, 3, 3, 0, 0)", x.knocks(1, 3, 3, 0, 0), 3);
        Due.refused(x, "rowOf(3, 1, 3, 0)", x.rowOf(3, 1, 3, 0), 3);
        Due.refused(x, "air(3, 3, 1, 0)", x.air(3, 3, 1, 0), 3);
        Due.fine(x, "air(3, 2, 1, 0)", x.air(3, 2, 1, 0), 1);
        Due.refused(x, "gauge(3, 3, 3, 0)", x.gauge(3, 3, 3, 0), 3);
        Due.fine(x, "gauge(3, 3, 2, 0)", x.gauge(3, 3, 2, 0), 1);
    }

    private static void tooMany() {
        Due.says(TERMS, "4 one too many.");
        FlueHouse x = Due.rightPlant(1, "cloth c holds 1,1,1,1 full 1;works w at c;");
        for (int i = 0; i < 200; i++) {
            Due.is("row()", x.row(0, 0, 0, 1, 0), true);
        }
        for (int i = 0; i < 40; i++) {
            Due.is("knock()", x.knock(0, 0, 0), true);
        }
        Due.is("status()", x.status(), 0);
        Due.refused(x, "row()", x.row(0, 0, 0, 1, 0), 4);
        Due.refused(x, "knock()", x.knock(0, 0, 0), 4);
        Due.refused(x, "hole()", x.hole(0, 0, 1, 0), 4);
        Due.refused(x, "off()", x.off(0, 0, 0, 0), 4);
    }

    private static void gone() {
        Due.says(TERMS, "5 an HOUR by which it is KNOWN that is gone.");
        FlueHouse x = used();
        Due.refused(x, "row()", x.row(0, 0, 0, 1, 8), 5);
        Due.refused(x, "knock()", x.knock(1, 0, 8), 5);
        Due.refused(x, "hole()", x.hole(2, 0, 1, 8), 5);
        Due.refused(x, "off()", x.off(0, 0, 0, 8), 5);
        Due.fine(x, "the hour itself is not gone", x.row(0, 0, 0, 1, 9));
    }

    private static void noneSuch() {
        Due.says(TERMS, "6 there is none such.");
        FlueHouse x = new FlueHouse();
        Due.refused(x, "breach(0)", x.breach(0), 6);
        Due.refused(x, "tornTold(0)", x.tornTold(0), 6);
        Due.refused(x, "knockSet()", x.knockSet(), 6);
        Due.refused(x, "rowAt(0)", x.rowAt(0), 6);
        Due.refused(x, "gaugeTold(0, 0)", x.gaugeTold(0, 0), 6);
        FlueHouse y = used();
        Due.fine(y, "tornTold(0)", y.tornTold(0), 2);
        Due.fine(y, "rowAt(0)", y.rowAt(0), 0);
        Due.refused(y, "rowAt(1)", y.rowAt(1), 6);
    }

    private static void otherSort() {
        Due.says(TERMS, "7 a CLEANER of another sort.");
        FlueHouse x = used();
        int[] knocked = {7, 0, 0, 7};
        int[] torn = {7, 7, 0, 7};
        for (int c = 0; c < 4; c++) {
            x.knock(c, 47, 9);
            Due.is("status() of knock(" + c + ", 47, 9)", x.status(), knocked[c]);
            x.hole(c, 47, 1, 9);
            Due.is("status() of hole(" + c + ", 47, 1, 9)", x.status(), torn[c]);
            x.off(c, 47, 47, 9);
            Due.is("status() of off(" + c + ", 47, 47, 9)", x.status(), 0);
            x.knocks(c, 0, 2, 1, 0);
            Due.is("status() of knocks(" + c + ", 0, 2, 1, 0)", x.status(), knocked[c]);
        }
    }

    private static void unlike() {
        Due.says(TERMS, "8 TRAYS are of unlike sorts.");
        FlueHouse x = new FlueHouse();
        for (int from = 0; from < 4; from++) {
            for (int to = 0; to < 4; to++) {
                x.tray(0, from, 1);
                x.tray(1, to, 1);
                Due.is("pour()", x.pour(0, 0, 1, 0, 1), from == to);
                Due.is("status()", x.status(), from == to ? 0 : 8);
            }
        }
    }

    private static void faults() {
        Due.says(TERMS, "9 a FAULT.");
        FlueHouse x = used();
        Due.refused(x, "plant()", Due.plant(x, "?"), 9);
        Due.refused(x, "laws()", Due.laws(x, "?"), 9);
        Due.fine(x, "plant()", Due.plant(x, ""), 0);
        Due.fine(x, "laws()", Due.laws(x, ""), 0);
    }

    private static void fineElse() {
        Due.says(TERMS, "0 else.");
        for (ToLongFunction<FlueHouse> call : fineCalls()) {
            FlueHouse x = used();
            x.read(9, 9);
            call.applyAsLong(x);
            Due.is("status() of a call that is fine", x.status(), 0);
        }
    }

    private static List<ToLongFunction<FlueHouse>> fineCalls() {
        List<ToLongFunction<FlueHouse>> calls = new ArrayList<>();
        calls.add(x -> x.tray(0, 0, 0) ? 1 : 0);
        calls.add(x -> x.write(0, 0, 1) ? 1 : 0);
        calls.add(x -> x.read(0, 0));
        calls.add(x -> x.pour(0, 0, 0, 1, 1) ? 1 : 0);
        calls.add(x -> x.plant(0));
        calls.add(x -> x.laws(0));
        calls.add(x -> x.cleaner(0, 0));
        calls.add(x -> x.works(0));
        calls.add(x -> x.row(0, 0, 0, 0, 9) ? 1 : 0);
        calls.add(x -> x.warmth(0, 0) ? 1 : 0);
        calls.add(x -> x.knock(1, 0, 9) ? 1 : 0);
        calls.add(x -> x.hole(2, 0, 1, 9) ? 1 : 0);
        calls.add(x -> x.off(0, 0, 0, 9) ? 1 : 0);
        calls.add(x -> x.asof(0) ? 1 : 0);
        calls.add(x -> x.up(0, 0));
        calls.add(x -> x.at(0, 0, 0, 0));
        calls.add(x -> x.whose(0, 0, 0));
        calls.add(x -> x.broken(0, 0));
        calls.add(x -> x.breach(0));
        calls.add(x -> x.torn(0, 0, 1, 0));
        calls.add(x -> x.tornTold(0));
        calls.add(x -> x.knocks(1, 0, 2, 1, 0));
        calls.add(x -> x.knockSet());
        calls.add(x -> x.rowOf(1, 1, 1, 40000));
        calls.add(x -> x.rowAt(0));
        calls.add(x -> x.air(1, 1, 1, 0));
        calls.add(x -> x.gauge(0, 0, 1, 0));
        calls.add(x -> x.gaugeTold(0, 0));
        return calls;
    }

    private static void firstThatHolds() {
        Due.says(TERMS, "STATUS of a call is the first of these that holds");
        FlueHouse x = used();
        Due.refused(x, "read(): 1 ahead of 2", x.read(4, -1), 1);
        Due.refused(x, "read(): 2 ahead of 3", x.read(3, -1), 2);
        Due.refused(x, "row(): 1 ahead of 5", x.row(2, 0, 0, 1, 8), 1);
        Due.refused(x, "knock(): 1 ahead of 7", x.knock(0, 48, 9), 1);
        Due.refused(x, "knock(): 5 ahead of 7", x.knock(0, 0, 8), 5);
        Due.refused(x, "hole(): 5 ahead of 7", x.hole(0, 0, 1, 8), 5);
        Due.refused(x, "torn(): 1 ahead of 2", x.torn(3, 48, 1, 0), 1);
        Due.refused(x, "plant(): 1 ahead of 9", x.plant(-1), 1);
        for (int i = 0; i < 40; i++) {
            x.knock(1, 0, 9);
        }
        Due.refused(x, "knock(): 4 ahead of 5 and 7", x.knock(0, 0, 8), 4);
        Due.refused(x, "hole(): 4 ahead of 5 and 7", x.hole(0, 0, 1, 8), 4);
        Due.refused(x, "off(): 4 ahead of 5", x.off(0, 0, 0, 8), 4);
        Due.refused(x, "off(): 1 ahead of 4", x.off(0, 1, 0, 8), 1);
    }

    // ---- what a refused call leaves

    /** A house in use: a plant, laws, rows, events, two trays, something told by each search, a text on the tape. */
    private static FlueHouse used() {
        FlueHouse x = new FlueHouse();
        Due.plant(x, PLANT);
        Due.laws(x, LAWS);
        for (int hour = 0; hour < 6; hour++) {
            for (int size = 0; size < 4; size++) {
                x.row(0, hour, size, 20 + 10 * size + hour, 2);
            }
            x.row(1, hour, hour % 4, 33, 3);
        }
        x.knock(1, 3, 4);
        x.hole(2, 2, 10, 5);
        x.off(3, 1, 2, 6);
        x.warmth(4, 25);
        x.row(0, 0, 0, 21, 9);
        x.asof(50);
        Due.fill(x, 0, 1, 0, 4, 2, 7);
        Due.fill(x, 1, 1, 50, 50, 50, 50, 3, 7);
        Due.fill(x, 2, 2, x.up(0, NONE), x.up(1, NONE), x.up(2, NONE) + 10);
        x.torn(2, 0, 3, 20);
        x.knocks(1, 0, 3, 2, 5);
        x.rowOf(1, 1, 1, 120);
        x.gauge(0, 1, 2, 100);
        Due.feed(x, "cyclone z holds 1,2,3,4;");
        return x;
    }

    private static final int ASPECTS = 6;

    /** All that can be asked of an object, in parts, so that one object has its 512 calls at most. */
    private static List<Long> told(FlueHouse x, int aspect) {
        List<Long> all = new ArrayList<>();
        switch (aspect) {
            case 0:
                trays(x, all);
                break;
            case 1:
                flow(x, all);
                break;
            case 2:
                lawsAndTold(x, all);
                break;
            case 3:
                tape(x, all);
                break;
            case 4:
                roomForRows(x, all);
                break;
            default:
                roomForEvents(x, all);
                break;
        }
        return all;
    }

    private static void trays(FlueHouse x, List<Long> all) {
        for (int tray = 0; tray < 4; tray++) {
            for (int place = 0; place < 8; place++) {
                all.add(x.read(tray, place));
                all.add((long) x.status());
            }
            all.add(x.pour(tray, 0, 1, 0, 0) ? 1L : 0L);
        }
        for (int c = 0; c < 5; c++) {
            for (int what = 0; what < 6; what++) {
                all.add((long) x.cleaner(c, what));
            }
            all.add((long) x.works(c));
        }
    }

    private static void flow(FlueHouse x, List<Long> all) {
        for (int hour = 0; hour < 7; hour++) {
            for (int c = 0; c < 4; c++) {
                for (int what = 0; what < 5; what++) {
                    all.add((long) x.at(c, hour, NONE, what));
                }
            }
            for (int size = 0; size < 4; size++) {
                all.add((long) x.up(hour, size));
                all.add((long) x.whose(0, hour, size));
            }
        }
    }

    private static void lawsAndTold(FlueHouse x, List<Long> all) {
        for (int hour = 0; hour < 48; hour++) {
            all.add((long) x.broken(0, hour));
            all.add((long) x.broken(1, hour));
        }
        all.add((long) x.broken(2, 0));
        all.add((long) x.breach(0));
        all.add((long) x.breach(1));
        for (int i = 0; i < 5; i++) {
            all.add((long) x.tornTold(i));
            all.add((long) x.rowAt(i));
            all.add((long) x.gaugeTold(200 * i, 0));
            all.add((long) x.gaugeTold(200 * i, 1));
        }
        all.add((long) x.knockSet());
        all.add((long) x.fault(0));
        all.add((long) x.fault(1));
        x.asof(99);
        all.add((long) x.up(0, NONE));
    }

    private static void tape(FlueHouse x, List<Long> all) {
        all.add((long) x.feed(0x20202020, 0, 0, 0, 0));
        all.add((long) x.plant(27));
        all.add((long) x.cleaner(0, 5));
    }

    private static void roomForRows(FlueHouse x, List<Long> all) {
        all.add(x.row(0, 0, 0, 1, 8) ? 1L : 0L);
        long many = 0;
        while (many < 300 && x.row(0, 0, 0, 1, 9)) {
            many++;
        }
        all.add(many);
    }

    private static void roomForEvents(FlueHouse x, List<Long> all) {
        all.add(x.off(0, 0, 0, 8) ? 1L : 0L);
        long many = 0;
        while (many < 300 && x.off(0, 0, 0, 9)) {
            many++;
        }
        all.add(many);
    }

    private record Refusal(String name, int status, boolean flag, ToLongFunction<FlueHouse> call) {
    }

    private static Refusal flag(String name, int status, java.util.function.Predicate<FlueHouse> call) {
        return new Refusal(name, status, true, x -> call.test(x) ? 1 : 0);
    }

    private static Refusal number(String name, int status, ToLongFunction<FlueHouse> call) {
        return new Refusal(name, status, false, call);
    }

    private static List<Refusal> refusals() {
        return List.of(
            flag("tray(4, 0, 1)", 1, x -> x.tray(4, 0, 1)), flag("tray(0, 4, 1)", 1, x -> x.tray(0, 4, 1)),
            flag("tray(0, 0, 61)", 1, x -> x.tray(0, 0, 61)), flag("tray(0, 0, -1)", 1, x -> x.tray(0, 0, -1)),
            flag("write(4, 0, 5)", 1, x -> x.write(4, 0, 5)), flag("write(3, 0, 5)", 2, x -> x.write(3, 0, 5)),
            flag("write(0, 4, 5)", 3, x -> x.write(0, 4, 5)), flag("write(1, -1, 5)", 3, x -> x.write(1, -1, 5)),
            number("read(4, 0)", 1, x -> x.read(4, 0)), number("read(3, 0)", 2, x -> x.read(3, 0)),
            number("read(0, 4)", 3, x -> x.read(0, 4)),
            flag("pour(0, 0, 1, 0, -1)", 1, x -> x.pour(0, 0, 1, 0, -1)),
            flag("pour(0, 0, 3, 0, 1)", 2, x -> x.pour(0, 0, 3, 0, 1)),
            flag("pour(0, 0, 2, 0, 1)", 8, x -> x.pour(0, 0, 2, 0, 1)),
            flag("pour(0, 0, 1, 3, 4)", 3, x -> x.pour(0, 0, 1, 3, 4)),
            flag("pour(0, 1, 1, 0, 4)", 3, x -> x.pour(0, 1, 1, 0, 4)),
            number("plant(-1)", 1, x -> x.plant(-1)), number("plant(41)", 1, x -> x.plant(41)),
            number("laws(-1)", 1, x -> x.laws(-1)), number("laws(41)", 1, x -> x.laws(41)),
            number("cleaner(4, 0)", 1, x -> x.cleaner(4, 0)), number("cleaner(0, 6)", 1, x -> x.cleaner(0, 6)),
            number("works(2)", 1, x -> x.works(2)),
            flag("row(2, 0, 0, 5, 60)", 1, x -> x.row(2, 0, 0, 5, 60)),
            flag("row(0, 48, 0, 5, 60)", 1, x -> x.row(0, 48, 0, 5, 60)),
            flag("row(0, 0, 0, 10000, 60)", 1, x -> x.row(0, 0, 0, 10000, 60)),
            flag("row(0, 0, 0, 5, 100)", 1, x -> x.row(0, 0, 0, 5, 100)),
            flag("row(0, 0, 0, 5, 8)", 5, x -> x.row(0, 0, 0, 5, 8)),
            flag("warmth(48, 5)", 1, x -> x.warmth(48, 5)), flag("warmth(4, 10000)", 1, x -> x.warmth(4, 10000)),
            flag("knock(4, 0, 60)", 1, x -> x.knock(4, 0, 60)), flag("knock(1, 0, 8)", 5, x -> x.knock(1, 0, 8)),
            flag("knock(0, 0, 60)", 7, x -> x.knock(0, 0, 60)),
            flag("hole(2, 0, 0, 60)", 1, x -> x.hole(2, 0, 0, 60)), flag("hole(2, 0, 9, 8)", 5, x -> x.hole(2, 0, 9, 8)),
            flag("hole(1, 0, 9, 60)", 7, x -> x.hole(1, 0, 9, 60)),
            flag("off(0, 1, 0, 60)", 1, x -> x.off(0, 1, 0, 60)), flag("off(0, 0, 1, 8)", 5, x -> x.off(0, 0, 1, 8)),
            flag("asof(100)", 1, x -> x.asof(100)), flag("asof(-1)", 1, x -> x.asof(-1)),
            number("up(48, 0)", 1, x -> x.up(48, 0)), number("at(0, 0, 0, 5)", 1, x -> x.at(0, 0, 0, 5)),
            number("whose(0, 0, -1)", 1, x -> x.whose(0, 0, -1)), number("broken(2, 0)", 1, x -> x.broken(2, 0)),
            number("breach(2)", 1, x -> x.breach(2)),
            number("torn(0, 0, 1, -1)", 1, x -> x.torn(0, 0, 1, -1)), number("torn(3, 0, 1, 0)", 2, x -> x.torn(3, 0, 1, 0)),
            number("torn(0, 0, 5, 0)", 3, x -> x.torn(0, 0, 5, 0)), number("tornTold(3)", 1, x -> x.tornTold(3)),
            number("knocks(1, 0, 3, 4, 5)", 1, x -> x.knocks(1, 0, 3, 4, 5)),
            number("knocks(1, 3, 3, 1, 5)", 2, x -> x.knocks(1, 3, 3, 1, 5)),
            number("knocks(1, 0, 5, 1, 5)", 3, x -> x.knocks(1, 0, 5, 1, 5)),
            number("knocks(1, 1, 2, 1, 5)", 1, x -> x.knocks(1, 1, 2, 1, 5)),
            number("knocks(0, 0, 3, 1, 5)", 7, x -> x.knocks(0, 0, 3, 1, 5)),
            number("rowOf(1, 8, 1, 0)", 1, x -> x.rowOf(1, 8, 1, 0)), number("rowOf(1, 1, 3, 0)", 2, x -> x.rowOf(1, 1, 3, 0)),
            number("rowOf(1, 2, 0, 0)", 3, x -> x.rowOf(1, 2, 0, 0)), number("rowOf(1, 1, 1, 0)", 6, x -> x.rowOf(1, 1, 1, 0)),
            number("rowAt(-1)", 1, x -> x.rowAt(-1)), number("rowAt(1)", 6, x -> x.rowAt(1)),
            number("air(0, 1, 1, 1)", 1, x -> x.air(0, 1, 1, 1)), number("air(3, 1, 1, 0)", 2, x -> x.air(3, 1, 1, 0)),
            number("air(0, 5, 1, 0)", 3, x -> x.air(0, 5, 1, 0)), number("air(0, 1, 1, 0)", 1, x -> x.air(0, 1, 1, 0)),
            number("gauge(0, 1, 1, 1001)", 1, x -> x.gauge(0, 1, 1, 1001)),
            number("gauge(0, 3, 1, 0)", 2, x -> x.gauge(0, 3, 1, 0)), number("gauge(0, 1, 5, 0)", 3, x -> x.gauge(0, 1, 5, 0)),
            number("gaugeTold(1000, 0)", 1, x -> x.gaugeTold(1000, 0)));
    }

    private static void refusedChangesNothing() {
        Due.says(TERMS, "With another STATUS than 0 a call gives NONE, or false, and changes nothing else");
        for (int aspect = 0; aspect < ASPECTS; aspect++) {
            List<Long> due = told(used(), aspect);
            for (Refusal refusal : refusals()) {
                FlueHouse x = used();
                Due.is(refusal.name, refusal.call.applyAsLong(x), refusal.flag ? 0 : NONE);
                Due.is("status() of " + refusal.name, x.status(), refusal.status);
                Due.is("all is as it was behind " + refusal.name + ", " + aspect, told(x, aspect).equals(due), true);
            }
        }
    }

    private static void tapeBehindAFault() {
        Due.says(TERMS, "(but plant() and laws() with 9 the tape, and what fault() tells).");
        for (boolean laws : new boolean[] {false, true}) {
            for (int aspect = 0; aspect < ASPECTS; aspect++) {
                FlueHouse x = used();
                Due.refused(x, "a text with a fault", laws ? x.laws(8) : x.plant(8), 9);
                Due.is("fault(0)", x.fault(0), 2);
                Due.is("fault(1)", x.fault(1), 8);
                FlueHouse y = used();
                if (aspect == 3) {
                    Due.is("the tape is empty", x.feed(0, 0, 0, 0, 0), 20);
                } else {
                    List<Long> due = told(y, aspect);
                    List<Long> got = told(x, aspect);
                    if (aspect == 2) {
                        // What fault() tells stands ahead of the last number, and is another one.
                        got.set(got.size() - 3, due.get(due.size() - 3));
                        got.set(got.size() - 2, due.get(due.size() - 2));
                    }
                    Due.is("all else is as it was, " + aspect, got.equals(due), true);
                }
            }
        }
    }

    // ---- all calls

    private static void fiveHundredCalls() {
        Due.says("What it is", "An object is used for at most 512 calls after it has been made");
        FlueHouse x = new FlueHouse();
        for (int call = 1; call < 511; call++) {
            x.tray(0, 3, 60);
        }
        Due.is("call 511", x.write(0, 59, 77), true);
        Due.is("call 512", x.read(0, 59), 77);
        FlueHouse y = new FlueHouse();
        int many = Due.feed(y, "cloth c holds 100,0,0,0 full 9999;works w at c;") / 20 + 1;
        y.plant(47);
        for (int call = many + 2; call < 512; call++) {
            int hour = call % 48;
            if (call % 2 == 0) {
                y.row(0, hour, 0, 10, 0);
            } else {
                Due.is("call " + call, y.up(hour, 0), 0);
            }
        }
        Due.is("call 512", y.at(0, 47, 0, 3), 240);
    }

    private interface Call {
        long on(FlueHouse x, int[] v);
    }

    private record Places(int many, Call call) {
    }

    private static List<Places> everyCall() {
        return List.of(new Places(3, (x, v) -> x.tray(v[0], v[1], v[2]) ? 1 : 0),
            new Places(3, (x, v) -> x.write(v[0], v[1], (long) v[2] << 32) ? 1 : 0),
            new Places(2, (x, v) -> x.read(v[0], v[1])),
            new Places(5, (x, v) -> x.pour(v[0], v[1], v[2], v[3], v[4]) ? 1 : 0),
            new Places(1, (x, v) -> {
                x.feed(v[0], v[0], v[0], v[0], v[0]);
                return x.plant(v[0]);
            }),
            new Places(1, (x, v) -> {
                x.feed(v[0], v[0], v[0], v[0], v[0]);
                return x.laws(v[0]);
            }),
            new Places(2, (x, v) -> x.cleaner(v[0], v[1])), new Places(1, (x, v) -> x.works(v[0])),
            new Places(5, (x, v) -> x.row(v[0], v[1], v[2], v[3], v[4]) ? 1 : 0),
            new Places(2, (x, v) -> x.warmth(v[0], v[1]) ? 1 : 0),
            new Places(3, (x, v) -> x.knock(v[0], v[1], v[2]) ? 1 : 0),
            new Places(4, (x, v) -> x.hole(v[0], v[1], v[2], v[3]) ? 1 : 0),
            new Places(4, (x, v) -> x.off(v[0], v[1], v[2], v[3]) ? 1 : 0),
            new Places(1, (x, v) -> x.asof(v[0]) ? 1 : 0), new Places(2, (x, v) -> x.up(v[0], v[1])),
            new Places(4, (x, v) -> x.at(v[0], v[1], v[2], v[3])), new Places(3, (x, v) -> x.whose(v[0], v[1], v[2])),
            new Places(2, (x, v) -> x.broken(v[0], v[1])), new Places(1, (x, v) -> x.breach(v[0])),
            new Places(4, (x, v) -> x.torn(v[0], v[1], v[2], v[3])), new Places(1, (x, v) -> x.tornTold(v[0])),
            new Places(5, (x, v) -> x.knocks(v[0], v[1], v[2], v[3], v[4])), new Places(0, (x, v) -> x.knockSet()),
            new Places(4, (x, v) -> x.rowOf(v[0], v[1], v[2], v[3])), new Places(1, (x, v) -> x.rowAt(v[0])),
            new Places(4, (x, v) -> x.air(v[0], v[1], v[2], v[3])), new Places(4, (x, v) -> x.gauge(v[0], v[1], v[2], v[3])),
            new Places(2, (x, v) -> x.gaugeTold(v[0], v[1])));
    }

    /** Each call with each of the far and near numbers in each place: none throws, and each has a status of the list. */
    private static void noneThrows() {
        Due.says(TERMS, "With another STATUS than 0 a call gives NONE, or false");
        for (Places places : everyCall()) {
            everyExtreme(new FlueHouse(), places);
            everyExtreme(used(), places);
            FlueHouse emptied = used();
            emptied.tray(0, 0, 0);
            emptied.plant(0);
            everyExtreme(emptied, places);
        }
    }

    private static void everyExtreme(FlueHouse x, Places places) {
        int many = EXTREMES.length;
        int all = 1;
        for (int i = 0; i < places.many; i++) {
            all *= many;
        }
        int[] v = new int[5];
        for (int i = 0; i < all; i++) {
            int rest = i;
            for (int place = 0; place < places.many; place++) {
                v[place] = EXTREMES[rest % many];
                rest /= many;
            }
            long answer = places.call.on(x, v);
            int status = x.status();
            Due.is("a status of the list", status >= 0 && status <= 9, true);
            Due.is("NONE or false with another status", status == 0 || answer == NONE || answer == 0, true);
        }
    }
}
