import java.util.ArrayList;
import java.util.List;
import java.util.Random;
import java.util.function.Predicate;
import java.util.function.ToLongFunction;

/**
 * Runs of calls by chance (fixed seeds) on objects side by side: one has all calls, its twin has the same ones, and a
 * third only those that were taken and that tell something. None of the three may be told from the others.
 */
public final class TwinTest {
    private static final int RUNS = 500;
    private static final int ROWS = 25;
    /** With the status of each, and the texts, these stay below the 512 calls of an object. */
    private static final int CALLS = 90;
    private static final int QUESTIONS = 50;
    private static final String[] PLANTS = {
        "plates p holds 90,80,70,60 layer 300 flies 30;cloth c holds 99,95,90,100 full 900;"
            + "join p to c share 60,stack share 40;works v at p;works w at c;",
        "cyclone a holds 10,50,80,95;spray s holds 60,60,60,60 warm 50;cloth c holds 90,90,90,90 full 150;"
            + "cloth d holds 70,80,90,100 full 400;join a to s share 33,c share 33,d share 34;join c to d share 100;"
            + "works u at a;works v at s;works w at c;",
        "cloth c holds 100,100,100,100 full 60;works w at c;",
        "plates a holds 100,50,25,0 layer 40 flies 100;plates b holds 33,66,99,1 layer 90 flies 7;"
            + "join a to b share 99,stack share 1;works p at a;works q at a;works r at b;works s at b;",
        ""};
    private static final String[] WRONG_PLANTS = {"cyclone a holds 1,2,3,101;", "works w at a;", "cloth"};
    private static final String[] LAWS = {
        "day:fine+small over 24 below 40;hot:warmth*2-hour over 1 below 90;all:fine+small+coarse+grit over 3 below 70;",
        "big:(fine+1)*(grit+1) over 2 below 900;", ""};
    private static final String[] WRONG_LAWS = {"l:fine over 25 below 1;", "l:1 over 1"};

    private record Call(String name, boolean tells, ToLongFunction<FlueHouse> on) {
    }

    private final Random random;
    private final FlueHouse all = new FlueHouse();
    private final FlueHouse twin = new FlueHouse();
    private final FlueHouse taken = new FlueHouse();
    private int known = 0;

    private TwinTest(int run) {
        random = new Random(run * 104729L + 3);
    }

    public static void main(String[] args) {
        Due.says("Terms", "and changes nothing else (but plant() and laws() with 9 the tape, and what fault() tells).");
        for (int run = 0; run < RUNS; run++) {
            new TwinTest(run).play();
        }
        Due.end();
    }

    private void play() {
        give(true, PLANTS[chance(PLANTS.length - 1)]);
        give(false, LAWS[chance(LAWS.length - 1)]);
        for (int i = 0; i < ROWS; i++) {
            both(row());
        }
        fill(0, 0, 2, 5, 3, 1, 8, 40);
        fill(1, 1, 90, 50, 40, 30, chance(9), 20, 90, 60, 50, chance(9));
        fill(2, 2, 50 + chance(900), chance(99), chance(9), chance(999));
        fill(3, 3, all.up(2, -1), all.up(3, -1), all.up(4, -1) + chance(50));
        for (int call = 0; call < CALLS; call++) {
            int dice = chance(40);
            if (dice == 0) {
                boolean plant = chance(3) > 0;
                boolean wrong = chance(2) == 0;
                give(plant, one(plant ? wrong ? WRONG_PLANTS : PLANTS : wrong ? WRONG_LAWS : LAWS));
            } else {
                both(dice < 16 ? told() : dice < 22 ? search() : question());
            }
        }
        for (int i = 0; i < QUESTIONS; i++) {
            Call call = question();
            long due = call.on.applyAsLong(all);
            int status = all.status();
            Due.is(call.name + " without the questions and the refused calls ahead", call.on.applyAsLong(taken), due);
            if (!call.name.equals("fault")) {
                Due.is("status() of " + call.name, taken.status(), status);
            }
        }
        Due.is("the tape", taken.feed(0, 0, 0, 0, 0), all.feed(0, 0, 0, 0, 0));
    }

    private void both(Call call) {
        long answer = call.on.applyAsLong(all);
        int status = all.status();
        Due.is(call.name + " of the twin", call.on.applyAsLong(twin), answer);
        Due.is("status() of the twin behind " + call.name, twin.status(), status);
        boolean text = call.name.equals("plant") || call.name.equals("laws");
        if (call.tells && (status == 0 || (text && status == 9))) {
            Due.is(call.name + " of that which has only what was taken", call.on.applyAsLong(taken), answer);
        }
    }

    private void give(boolean plant, String text) {
        int length = Due.feed(all, text);
        Due.feed(twin, text);
        Due.feed(taken, text);
        if (chance(5) == 0) {
            both(new Call(plant ? "plant" : "laws", true, x -> plant ? x.plant(601) : x.laws(-1)));
        }
        both(new Call(plant ? "plant" : "laws", true, x -> plant ? x.plant(length) : x.laws(length)));
    }

    private void fill(int tray, int sort, int... numbers) {
        both(flag("tray", x -> x.tray(tray, sort, numbers.length)));
        for (int i = 0; i < numbers.length; i++) {
            int place = i;
            both(flag("write", x -> x.write(tray, place, numbers[place])));
        }
    }

    private int chance(int many) {
        return random.nextInt(many);
    }

    private String one(String[] texts) {
        return texts[chance(texts.length)];
    }

    /** Mostly within the bounds, now and then right outside of them. */
    private int near(int least, int most) {
        int dice = chance(40);
        return dice == 0 ? least - 1 : dice == 1 ? most + 1 : least + chance(most - least + 1);
    }

    private static Call flag(String name, Predicate<FlueHouse> call) {
        return new Call(name, true, x -> call.test(x) ? 1 : 0);
    }

    private static Call asked(String name, ToLongFunction<FlueHouse> call) {
        return new Call(name, false, call);
    }

    private int knownBy() {
        if (known < 99 && chance(10) == 0) {
            known++;
        }
        // Seldom far ahead: what is told behind that is refused.
        return chance(15) == 0 ? Math.min(known + 2, near(0, 99)) : known;
    }

    private Call row() {
        int works = near(0, 1);
        int hour = chance(4) == 0 ? near(0, 47) : chance(9);
        int size = near(0, 3);
        int portions = near(0, chance(5) == 0 ? 9999 : 90);
        int by = knownBy();
        return flag("row", x -> x.row(works, hour, size, portions, by));
    }

    private Call told() {
        int c = near(0, 1);
        int hour = chance(3) == 0 ? near(0, 47) : chance(9);
        int much = near(1, 100);
        int by = knownBy();
        int other = chance(2) == 0 ? c : chance(4);
        switch (chance(9)) {
            case 0:
                return flag("knock", x -> x.knock(c, hour, by));
            case 1:
                return flag("hole", x -> x.hole(c, hour, much, by));
            case 2:
                int to = hour + chance(4) - 1;
                return flag("off", x -> x.off(c, hour, to, by));
            case 3:
                return flag("warmth", x -> x.warmth(hour, much));
            case 4:
                return flag("asof", x -> x.asof(much < 50 ? by : 99));
            case 5:
                return chance(4) == 0 ? flag("tray", x -> x.tray(c, hour % 4, much % 20)) : row();
            case 6:
                return flag("write", x -> x.write(c, hour, much - 1L));
            case 7:
                return flag("pour", x -> x.pour(c, hour % 4, other, much % 6, 3));
            default:
                return row();
        }
    }

    private Call search() {
        int many = near(1, 6);
        int tray = chance(4);
        int much = near(0, chance(2) == 0 ? 1000 : 30);
        int hour = near(0, 47);
        int c = near(0, 1);
        switch (chance(4)) {
            case 0:
                return new Call("torn", true, x -> x.torn(3, hour < 24 ? 2 : hour, many / 2, much));
            case 1:
                return new Call("knocks", true, x -> x.knocks(c, 0, many, many / 2, hour));
            case 2:
                return new Call("rowOf", true, x -> x.rowOf(1, many / 2, tray < 3 ? 2 : tray, much));
            default:
                return new Call("gauge", true, x -> x.gauge(0, tray < 3 ? 2 : tray, many, much));
        }
    }

    private Call question() {
        int c = chance(3) == 0 ? near(0, 3) : chance(2);
        int hour = chance(3) == 0 ? near(0, 47) : chance(9);
        int size = near(-1, 3);
        int what = near(0, 4);
        int much = near(0, 999);
        List<Call> calls = new ArrayList<>(List.of(asked("read", x -> x.read(c, hour)),
            asked("fault", x -> x.fault(what)), asked("cleaner", x -> x.cleaner(c, what)), asked("works", x -> x.works(c)),
            asked("whose", x -> x.whose(c, hour, size)), asked("broken", x -> x.broken(c, hour)),
            asked("breach", x -> x.breach(what)), asked("tornTold", x -> x.tornTold(what)),
            asked("knockSet", x -> x.knockSet()), asked("rowAt", x -> x.rowAt(what)),
            asked("air", x -> x.air(0, 1 + what, much % 201, c)), asked("gaugeTold", x -> x.gaugeTold(much, what % 2))));
        for (int i = 0; i < 6; i++) {
            calls.add(asked("up", x -> x.up(hour, size)));
            calls.add(asked("at", x -> x.at(c, hour, size, what)));
        }
        return calls.get(chance(calls.size()));
    }
}
