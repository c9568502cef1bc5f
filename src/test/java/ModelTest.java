import java.nio.charset.StandardCharsets;
import java.util.ArrayList;
import java.util.Arrays;
import java.util.HashMap;
import java.util.HashSet;
import java.util.LinkedHashMap;
import java.util.List;
import java.util.Map;
import java.util.Random;
import java.util.Set;

/** Runs of calls by chance, each answer and status held against a second, plain reckoning of the document. */
public final class ModelTest {
    // ---- the model

    private static final class Fault extends RuntimeException {
        private static final long serialVersionUID = 1L;
        final int kind;
        final int place;

        Fault(int kind, int place) {
            this.kind = kind;
            this.place = place;
        }
    }

    private static final class Refusal extends RuntimeException {
        private static final long serialVersionUID = 1L;
        final int status;

        Refusal(int status) {
            super(null, null, false, false);
            this.status = status;
        }
    }

    private record Token(String text, int place) {
        boolean bad(String signs) {
            char c = text.charAt(0);
            if (c >= 'a' && c <= 'z') {
                return false;
            }
            if (c >= '0' && c <= '9') {
                return text.length() > 4;
            }
            return signs.indexOf(c) < 0;
        }
    }

    private static final class Tokens {
        final List<Token> all = new ArrayList<>();
        final String signs;
        final int length;
        int at = 0;

        Tokens(String text, String signs) {
            this.signs = signs;
            this.length = text.length();
            int i = 0;
            while (i < text.length()) {
                if (text.charAt(i) == ' ' || text.charAt(i) == '\n') {
                    i++;
                    continue;
                }
                int k = i + 1;
                while (k < text.length() && sort(text.charAt(k)) == sort(text.charAt(i)) && sort(text.charAt(i)) > 0) {
                    k++;
                }
                all.add(new Token(text.substring(i, k), i));
                i = k;
            }
        }

        private static int sort(char c) {
            return c >= 'a' && c <= 'z' ? 1 : c >= '0' && c <= '9' ? 2 : 0;
        }

        boolean ended() {
            return at >= all.size();
        }

        int place() {
            return ended() ? length : all.get(at).place;
        }

        String look() {
            if (ended()) {
                return "";
            }
            if (all.get(at).bad(signs)) {
                throw new Fault(1, place());
            }
            return all.get(at).text;
        }

        String take(boolean allowed) {
            String text = look();
            if (!allowed) {
                throw new Fault(2, place());
            }
            at++;
            return text;
        }

        void word(String wanted) {
            take(look().equals(wanted));
        }

        String nameText(Set<String> kept) {
            String text = look();
            if (!text.matches("[a-z]{1,8}") || kept.contains(text)) {
                throw new Fault(2, place());
            }
            return text;
        }

        int number(int least, int most, int kind) {
            String text = look();
            if (!text.matches("[0-9]+")) {
                throw new Fault(2, place());
            }
            int v = Integer.parseInt(text);
            if (v < least || v > most) {
                throw new Fault(kind, place());
            }
            at++;
            return v;
        }
    }

    private static final Set<String> PLANT_WORDS = Set.of("cyclone", "plates", "cloth", "spray", "join", "works",
        "holds", "layer", "flies", "full", "warm", "to", "at", "share", "stack");
    private static final List<String> SORTS = List.of("cyclone", "plates", "cloth", "spray");
    private static final List<String> VARIABLES = List.of("fine", "small", "coarse", "grit", "warmth", "hour");

    private static final class Cleaner {
        int sort;
        int[] holds = new int[4];
        int limit;
        int flies;
        Map<String, Integer> ways;
    }

    private static final class PlantModel {
        final Map<String, Cleaner> cleaners = new LinkedHashMap<>();
        final Map<String, String> works = new LinkedHashMap<>();

        static PlantModel of(String text) {
            PlantModel p = new PlantModel();
            Tokens t = new Tokens(text, ";,");
            while (!t.ended()) {
                p.part(t);
            }
            return p;
        }

        int index(String name) {
            return new ArrayList<>(cleaners.keySet()).indexOf(name);
        }

        Cleaner cleaner(int c) {
            return new ArrayList<>(cleaners.values()).get(c);
        }

        private void part(Tokens t) {
            String first = t.look();
            t.take(SORTS.contains(first) || first.equals("join") || first.equals("works"));
            String name = t.nameText(PLANT_WORDS);
            int place = t.place();
            boolean there = cleaners.containsKey(name) || works.containsKey(name);
            if (first.equals("join")) {
                if (!cleaners.containsKey(name)) {
                    throw new Fault(3, place);
                }
                if (cleaners.get(name).ways != null) {
                    throw new Fault(5, place);
                }
                t.take(true);
                t.word("to");
                join(t, name);
                return;
            }
            if (there) {
                throw new Fault(3, place);
            }
            if (first.equals("works")) {
                if (works.size() == 4) {
                    throw new Fault(6, place);
                }
                t.take(true);
                t.word("at");
                String goal = t.nameText(PLANT_WORDS);
                if (!cleaners.containsKey(goal)) {
                    throw new Fault(3, t.place());
                }
                t.take(true);
                works.put(name, goal);
                t.word(";");
                return;
            }
            if (cleaners.size() == 8) {
                throw new Fault(6, place);
            }
            t.take(true);
            Cleaner c = new Cleaner();
            c.sort = SORTS.indexOf(first);
            t.word("holds");
            c.holds[0] = t.number(0, 100, 4);
            for (int s = 1; s < 4; s++) {
                t.word(",");
                c.holds[s] = t.number(0, 100, 4);
            }
            if (c.sort > 0) {
                t.word(List.of("layer", "full", "warm").get(c.sort - 1));
                c.limit = t.number(c.sort == 3 ? 0 : 1, 9999, 4);
            }
            if (c.sort == 1) {
                t.word("flies");
                c.flies = t.number(0, 100, 4);
            }
            t.word(";");
            cleaners.put(name, c);
        }

        private void join(Tokens t, String name) {
            Map<String, Integer> ways = new LinkedHashMap<>();
            while (true) {
                String goal = t.look();
                if (!goal.equals("stack")) {
                    goal = t.nameText(PLANT_WORDS);
                    if (!cleaners.containsKey(goal)) {
                        throw new Fault(3, t.place());
                    }
                    if (index(goal) <= index(name)) {
                        throw new Fault(5, t.place());
                    }
                }
                if (ways.containsKey(goal)) {
                    throw new Fault(5, t.place());
                }
                t.take(true);
                t.word("share");
                ways.put(goal, t.number(0, 100, 4));
                if (t.look().equals(",")) {
                    t.take(true);
                    continue;
                }
                if (!t.look().equals(";")) {
                    throw new Fault(2, t.place());
                }
                if (ways.values().stream().mapToInt(i -> i).sum() != 100) {
                    throw new Fault(7, t.place());
                }
                t.take(true);
                cleaners.get(name).ways = ways;
                return;
            }
        }
    }

    private interface Sum {
        long at(long[] variables);
    }

    private record Law(Sum sum, int over, int below) {
    }

    private static List<Law> lawsOf(String text) {
        Set<String> kept = new HashSet<>(VARIABLES);
        kept.add("over");
        kept.add("below");
        Map<String, Law> laws = new LinkedHashMap<>();
        Tokens t = new Tokens(text, ":;+-*()");
        while (!t.ended()) {
            String name = t.nameText(kept);
            if (laws.size() == 8) {
                throw new Fault(3, t.place());
            }
            if (laws.containsKey(name)) {
                throw new Fault(4, t.place());
            }
            t.take(true);
            t.word(":");
            Sum sum = sum(t, 0);
            t.word("over");
            int over = t.number(1, 24, 6);
            t.word("below");
            int below = t.number(0, 9999, 6);
            t.word(";");
            laws.put(name, new Law(sum, over, below));
        }
        return new ArrayList<>(laws.values());
    }

    private static Sum sum(Tokens t, int within) {
        Sum left = item(t, within);
        while (t.look().equals("+") || t.look().equals("-")) {
            boolean plus = t.take(true).equals("+");
            Sum a = left;
            Sum b = item(t, within);
            left = v -> plus ? a.at(v) + b.at(v) : a.at(v) - b.at(v);
        }
        return left;
    }

    private static Sum item(Tokens t, int within) {
        Sum left = atom(t, within);
        while (t.look().equals("*")) {
            t.take(true);
            Sum a = left;
            Sum b = atom(t, within);
            left = v -> a.at(v) * b.at(v);
        }
        return left;
    }

    private static Sum atom(Tokens t, int within) {
        String text = t.look();
        if (text.equals("(")) {
            if (within == 6) {
                throw new Fault(5, t.place());
            }
            t.take(true);
            Sum s = sum(t, within + 1);
            t.word(")");
            return s;
        }
        int variable = VARIABLES.indexOf(text);
        t.take(variable >= 0 || text.matches("[0-9]+"));
        if (variable >= 0) {
            return v -> v[variable];
        }
        long number = Long.parseLong(text);
        return v -> number;
    }

    private record Row(int works, int hour, int size, int portions, int known) {
    }

    private record Event(char sort, int c, int from, int to, int much, int known) {
    }

    private static long[] parted(long amount, long[] weights) {
        long whole = Arrays.stream(weights).sum();
        long[] parts = new long[weights.length];
        List<Integer> order = new ArrayList<>();
        long left = amount;
        for (int i = 0; i < weights.length; i++) {
            parts[i] = amount * weights[i] / whole;
            left -= parts[i];
            order.add(i);
        }
        order.sort((a, b) -> Long.compare(amount * weights[b] % whole, amount * weights[a] % whole));
        for (int i = 0; i < left; i++) {
            parts[order.get(i)]++;
        }
        return parts;
    }

    private static final class Told {
        final long[][][][] amounts = new long[5][8][48][4];
        final long[][] up = new long[48][4];
    }

    private static final class Model {
        int status = 0;
        final long[][] trays = new long[4][];
        final int[] sorts = new int[4];
        StringBuilder tape = new StringBuilder();
        PlantModel plant = new PlantModel();
        List<Law> laws = new ArrayList<>();
        int fault = -1;
        int faultPlace = -1;
        final List<Row> rows = new ArrayList<>();
        final List<Event> events = new ArrayList<>();
        final int[] warmth = new int[48];
        int known = 0;
        int asof = 99;
        int[] torn;
        int knockSet = -1;
        List<Integer> row;
        List<int[]> lines;
        private Told told;

        static void want(boolean holds, int status) {
            if (!holds) {
                throw new Refusal(status);
            }
        }

        static boolean in(long v, long least, long most) {
            return v >= least && v <= most;
        }

        boolean cleaner(long c) {
            return in(c, 0, plant.cleaners.size() - 1);
        }

        boolean works(long w) {
            return in(w, 0, plant.works.size() - 1);
        }

        boolean hour(long h) {
            return in(h, 0, 47);
        }

        Told told() {
            if (told == null) {
                told = step(null, 48);
            }
            return told;
        }

        Told step(List<Event> more, int hours) {
            List<Event> all = new ArrayList<>();
            for (Event e : events) {
                if (e.known <= asof) {
                    all.add(e);
                }
            }
            if (more != null) {
                all.addAll(more);
            }
            Map<Integer, Integer> dust = new HashMap<>();
            for (Row r : rows) {
                if (r.known <= asof) {
                    dust.put(r.works * 1000 + r.hour * 10 + r.size, r.portions);
                }
            }
            List<Cleaner> cleaners = new ArrayList<>(plant.cleaners.values());
            List<String> names = new ArrayList<>(plant.cleaners.keySet());
            List<String> goals = new ArrayList<>(plant.works.values());
            Told t = new Told();
            long[][] rest = new long[8][4];
            for (int h = 0; h < hours; h++) {
                for (int w = 0; w < goals.size(); w++) {
                    for (int s = 0; s < 4; s++) {
                        t.amounts[0][names.indexOf(goals.get(w))][h][s] += dust.getOrDefault(w * 1000 + h * 10 + s, 0);
                    }
                }
                for (int c = 0; c < cleaners.size(); c++) {
                    stepCleaner(t, all, cleaners.get(c), c, h, rest[c], names);
                }
            }
            return t;
        }

        private void stepCleaner(Told t, List<Event> all, Cleaner k, int c, int h, long[] rest, List<String> names) {
            long[] layer = t.amounts[3][c][h];
            long[] ash = t.amounts[4][c][h];
            if (h > 0) {
                System.arraycopy(t.amounts[3][c][h - 1], 0, layer, 0, 4);
                System.arraycopy(t.amounts[4][c][h - 1], 0, ash, 0, 4);
            }
            boolean knocked = false;
            boolean off = false;
            int holes = 0;
            for (Event e : all) {
                if (e.c == c) {
                    knocked |= e.sort == 'k' && e.from == h;
                    off |= e.sort == 'o' && e.from <= h && h <= e.to;
                    holes += e.sort == 'h' && e.from <= h ? e.much : 0;
                }
            }
            long[] flies = t.amounts[2][c][h];
            for (int s = 0; s < 4 && knocked; s++) {
                flies[s] = k.sort == 2 ? 0 : layer[s] * k.flies / 100;
                ash[s] += layer[s] - flies[s];
                layer[s] = 0;
            }
            long whole = layer[0] + layer[1] + layer[2] + layer[3];
            for (int s = 0; s < 4; s++) {
                long hold = k.holds[s];
                if (k.sort == 1 && whole >= k.limit) {
                    hold = hold / 2;
                } else if (k.sort == 2) {
                    hold = whole >= k.limit ? 0 : Math.max(0, hold - holes);
                } else if (k.sort == 3 && warmth[h] >= k.limit) {
                    hold = 0;
                }
                if (off) {
                    hold = 0;
                }
                long comes = t.amounts[0][c][h][s];
                long held = (comes * hold + rest[s]) / 100;
                rest[s] = (comes * hold + rest[s]) % 100;
                t.amounts[1][c][h][s] = held;
                (k.sort == 1 || k.sort == 2 ? layer : ash)[s] += held;
                Map<String, Integer> ways = k.ways == null ? Map.of("stack", 100) : k.ways;
                long[] parts = parted(comes - held + flies[s], ways.values().stream().mapToLong(i -> i).toArray());
                int i = 0;
                for (String goal : ways.keySet()) {
                    if (goal.equals("stack")) {
                        t.up[h][s] += parts[i++];
                    } else {
                        t.amounts[0][names.indexOf(goal)][h][s] += parts[i++];
                    }
                }
            }
        }

        long sumAt(Law law, int hour) {
            long[] v = Arrays.copyOf(told().up[hour], 6);
            v[4] = warmth[hour];
            v[5] = hour;
            return law.sum.at(v);
        }

        boolean broken(Law law, int hour) {
            if (hour + 1 < law.over) {
                return false;
            }
            long sum = 0;
            for (int h = hour - law.over + 1; h <= hour; h++) {
                sum += sumAt(law, h);
            }
            return sum >= (long) law.below * law.over;
        }

        static long all(long[] four) {
            return four[0] + four[1] + four[2] + four[3];
        }

        static long of(long[] four, long size) {
            return size == -1 ? all(four) : four[(int) size];
        }

        void there(long tray, long many) {
            want(trays[(int) tray] != null, 2);
            want(trays[(int) tray].length >= many, 3);
        }

        void add(List<?> list, int most, int k) {
            want(list.size() < most, 4);
            want(k >= known, 5);
        }

        long call(String name, long[] a) {
            if (name.equals("feed")) {
                return feed(a);
            }
            if (name.equals("fault")) {
                return a[0] == 0 ? fault : a[0] == 1 ? faultPlace : -1;
            }
            try {
                long answer = switch (name) {
                    case "tray", "write", "read", "pour" -> trayCall(name, a);
                    case "plant", "laws" -> textCall(name, a);
                    case "cleaner", "works", "up", "at", "whose", "broken", "breach" -> askCall(name, a);
                    case "row", "warmth", "knock", "hole", "off", "asof" -> tellCall(name, a);
                    case "torn", "tornTold", "knocks", "knockSet" -> huntCall(name, a);
                    default -> paperCall(name, a);
                };
                status = 0;
                return answer;
            } catch (Refusal r) {
                status = r.status;
                return Set.of("tray", "write", "pour", "row", "warmth", "knock", "hole", "off", "asof").contains(name)
                    ? 0 : -1;
            }
        }

        private long feed(long[] a) {
            if (tape.length() > 580) {
                return -1;
            }
            for (long v : a) {
                for (int shift = 24; shift >= 0; shift -= 8) {
                    tape.append((char) (v >> shift & 255));
                }
            }
            return tape.length();
        }

        private long trayCall(String name, long[] a) {
            want(in(a[0], 0, 3), 1);
            int t = (int) a[0];
            if (name.equals("tray")) {
                want(in(a[1], 0, 3) && in(a[2], 0, 60), 1);
                trays[t] = new long[(int) a[2]];
                sorts[t] = (int) a[1];
                return 1;
            }
            if (name.equals("pour")) {
                want(in(a[2], 0, 3) && a[1] >= 0 && a[3] >= 0 && a[4] >= 0, 1);
                int to = (int) a[2];
                want(trays[t] != null && trays[to] != null, 2);
                want(sorts[t] == sorts[to], 8);
                want(a[1] + a[4] <= trays[t].length && a[3] + a[4] <= trays[to].length, 3);
                long[] copy = trays[t].clone();
                for (int i = 0; i < a[4]; i++) {
                    trays[to][(int) a[3] + i] = copy[(int) a[1] + i];
                }
                return 1;
            }
            want(trays[t] != null, 2);
            want(in(a[1], 0, trays[t].length - 1), 3);
            if (name.equals("read")) {
                return trays[t][(int) a[1]];
            }
            int shift = 64 - (8 << sorts[t]);
            trays[t][(int) a[1]] = a[2] << shift >> shift;
            return 1;
        }

        private long textCall(String name, long[] a) {
            want(in(a[0], 0, tape.length()), 1);
            String text = tape.substring(0, (int) a[0]);
            tape = new StringBuilder();
            fault = 0;
            faultPlace = -1;
            try {
                if (name.equals("laws")) {
                    laws = lawsOf(text);
                    return laws.size();
                }
                plant = PlantModel.of(text);
            } catch (Fault f) {
                fault = f.kind;
                faultPlace = f.place;
                throw new Refusal(9);
            }
            rows.clear();
            events.clear();
            told = null;
            return plant.cleaners.size();
        }

        private long askCall(String name, long[] a) {
            switch (name) {
                case "cleaner":
                    want(cleaner(a[0]) && in(a[1], 0, 5), 1);
                    Cleaner c = plant.cleaner((int) a[0]);
                    return a[1] == 0 ? c.sort : a[1] == 1 ? (c.ways == null ? 1 : c.ways.size()) : c.holds[(int) a[1] - 2];
                case "works":
                    want(works(a[0]), 1);
                    return plant.index(new ArrayList<>(plant.works.values()).get((int) a[0]));
                case "up":
                    want(hour(a[0]) && in(a[1], -1, 3), 1);
                    return of(told().up[(int) a[0]], a[1]);
                case "at":
                    want(cleaner(a[0]) && hour(a[1]) && in(a[2], -1, 3) && in(a[3], 0, 4), 1);
                    return of(told().amounts[(int) a[3]][(int) a[0]][(int) a[1]], a[2]);
                case "whose":
                    want(works(a[0]) && hour(a[1]) && in(a[2], 0, 3), 1);
                    return whose((int) a[0], (int) a[1], (int) a[2]);
                case "broken":
                    want(in(a[0], 0, laws.size() - 1) && hour(a[1]), 1);
                    return broken(laws.get((int) a[0]), (int) a[1]) ? 1 : 0;
                default:
                    want(in(a[0], 0, 1), 1);
                    for (int h = 0; h < 48; h++) {
                        for (int l = 0; l < laws.size(); l++) {
                            if (broken(laws.get(l), h)) {
                                return a[0] == 0 ? h : l;
                            }
                        }
                    }
                    throw new Refusal(6);
            }
        }

        private long whose(int works, int hour, int size) {
            long[] weights = new long[plant.works.size()];
            for (Row r : rows) {
                if (r.known <= asof && r.hour == hour && r.size == size) {
                    weights[r.works] = r.portions;
                }
            }
            return Arrays.stream(weights).sum() == 0 ? 0 : parted(told().up[hour][size], weights)[works];
        }

        private long tellCall(String name, long[] a) {
            int[] i = Arrays.stream(a).mapToInt(v -> (int) v).toArray();
            switch (name) {
                case "row":
                    want(works(a[0]) && hour(a[1]) && in(a[2], 0, 3) && in(a[3], 0, 9999) && in(a[4], 0, 99), 1);
                    add(rows, 200, i[4]);
                    rows.add(new Row(i[0], i[1], i[2], i[3], i[4]));
                    known = i[4];
                    break;
                case "warmth":
                    want(hour(a[0]) && in(a[1], 0, 9999), 1);
                    warmth[i[0]] = i[1];
                    break;
                case "knock":
                    want(cleaner(a[0]) && hour(a[1]) && in(a[2], 0, 99), 1);
                    add(events, 40, i[2]);
                    want(in(plant.cleaner(i[0]).sort, 1, 2), 7);
                    events.add(new Event('k', i[0], i[1], 0, 0, i[2]));
                    known = i[2];
                    break;
                case "hole":
                    want(cleaner(a[0]) && hour(a[1]) && in(a[2], 1, 100) && in(a[3], 0, 99), 1);
                    add(events, 40, i[3]);
                    want(plant.cleaner(i[0]).sort == 2, 7);
                    events.add(new Event('h', i[0], i[1], 0, i[2], i[3]));
                    known = i[3];
                    break;
                case "off":
                    want(cleaner(a[0]) && hour(a[1]) && hour(a[2]) && a[1] <= a[2] && in(a[3], 0, 99), 1);
                    add(events, 40, i[3]);
                    events.add(new Event('o', i[0], i[1], i[2], 0, i[3]));
                    known = i[3];
                    break;
                default:
                    want(in(a[0], 0, 99), 1);
                    asof = i[0];
                    break;
            }
            told = null;
            return 1;
        }

        private long huntCall(String name, long[] a) {
            switch (name) {
                case "torn":
                    want(in(a[0], 0, 3) && hour(a[1]) && in(a[2], 1, 24) && a[1] + a[2] <= 48 && in(a[3], 0, 1000), 1);
                    there(a[0], a[2]);
                    return torn(trays[(int) a[0]], (int) a[1], (int) a[2], a[3]);
                case "tornTold":
                    want(in(a[0], 0, 2), 1);
                    want(torn != null, 6);
                    return torn[(int) a[0]];
                case "knocks":
                    want(cleaner(a[0]) && in(a[1], 0, 3) && in(a[2], 1, 6) && in(a[3], 0, a[2]) && hour(a[4]), 1);
                    there(a[1], a[2]);
                    Set<Long> hours = new HashSet<>();
                    for (int i = 0; i < a[2]; i++) {
                        want(hour(trays[(int) a[1]][i]) && hours.add(trays[(int) a[1]][i]), 1);
                    }
                    want(in(plant.cleaner((int) a[0]).sort, 1, 2), 7);
                    return knocks((int) a[0], trays[(int) a[1]], (int) a[2], (int) a[3], (int) a[4]);
                default:
                    want(knockSet >= 0, 6);
                    return knockSet;
            }
        }

        private long torn(long[] tray, int from, int many, long span) {
            torn = null;
            int fits = 0;
            for (int c = 0; c < plant.cleaners.size(); c++) {
                for (int h = 0; plant.cleaner(c).sort == 2 && h < from + many; h++) {
                    for (int much = 10; much <= 100; much += 10) {
                        Told t = step(List.of(new Event('h', c, h, 0, much, 0)), from + many);
                        boolean near = true;
                        for (int i = 0; i < many; i++) {
                            long up = all(t.up[from + i]);
                            near &= in(tray[i], up - span, up + span);
                        }
                        if (near && fits++ == 0) {
                            torn = new int[] {c, h, much};
                        }
                    }
                }
            }
            return fits;
        }

        private long knocks(int c, long[] tray, int many, int n, int to) {
            long best = Long.MAX_VALUE;
            for (int count = 0; count <= n; count++) {
                for (int set = 0; set < 1 << many; set++) {
                    if (Integer.bitCount(set) == count) {
                        List<Event> more = new ArrayList<>();
                        for (int i = 0; i < many; i++) {
                            if ((set >> i & 1) == 1) {
                                more.add(new Event('k', c, (int) tray[i], 0, 0, 0));
                            }
                        }
                        Told t = step(more, to + 1);
                        long up = 0;
                        for (int h = 0; h <= to; h++) {
                            up += all(t.up[h]);
                        }
                        if (up < best) {
                            best = up;
                            knockSet = set;
                        }
                    }
                }
            }
            return best;
        }

        private long paperCall(String name, long[] a) {
            switch (name) {
                case "rowOf":
                    want(in(a[0], 0, 3) && in(a[1], 1, 7) && in(a[2], 0, 3) && in(a[3], 0, 40000), 1);
                    want(trays[(int) a[0]] != null && trays[(int) a[2]] != null, 2);
                    there(a[0], 5 * a[1]);
                    there(a[2], 4);
                    return rowOf(trays[(int) a[0]], (int) a[1], trays[(int) a[2]], a[3]);
                case "rowAt":
                    want(a[0] >= 0, 1);
                    want(row != null && a[0] < row.size(), 6);
                    return row.get((int) a[0]);
                case "air":
                    want(in(a[0], 0, 3) && in(a[1], 1, 8) && in(a[2], 0, 200) && in(a[3], 0, a[1] - 1), 1);
                    there(a[0], a[1]);
                    long[] got = new long[(int) a[1]];
                    for (int i = 0; i < got.length; i++) {
                        want(in(trays[(int) a[0]][i], 1, 100), 1);
                    }
                    for (int part = 0; part < a[2]; part++) {
                        long least = Long.MAX_VALUE;
                        int flue = -1;
                        for (int i = 0; i < got.length; i++) {
                            long with = trays[(int) a[0]][i] * (got[i] + 1) * (got[i] + 1);
                            if (with < least) {
                                least = with;
                                flue = i;
                            }
                        }
                        got[flue]++;
                    }
                    return got[(int) a[3]];
                case "gauge":
                    want(in(a[0], 0, 3) && in(a[1], 0, 3) && in(a[2], 1, 10) && in(a[3], 0, 1000), 1);
                    want(trays[(int) a[0]] != null && trays[(int) a[1]] != null, 2);
                    there(a[0], a[2]);
                    there(a[1], a[2]);
                    return gauge(trays[(int) a[0]], trays[(int) a[1]], (int) a[2], a[3]);
                default:
                    want(in(a[0], 0, 999) && in(a[1], 0, 1), 1);
                    want(lines != null && !lines.isEmpty(), 6);
                    return a[1] == 0 ? lines.stream().mapToLong(l -> l[0] * a[0] + l[1]).min().getAsLong()
                        : lines.stream().mapToLong(l -> l[0] * a[0] + l[1]).max().getAsLong();
            }
        }

        private long rowOf(long[] cleaners, int many, long[] portions, long most) {
            for (int i = 0; i < many * 5; i++) {
                want(in(cleaners[i], 0, i % 5 == 4 ? 1000 : 100), 1);
            }
            for (int i = 0; i < 4; i++) {
                want(in(portions[i], 0, 9999), 1);
            }
            List<List<Integer>> rows = new ArrayList<>();
            rows.add(List.of());
            for (int i = 0; i < rows.size(); i++) {
                for (int c = 0; rows.get(i).size() < 4 && c < many; c++) {
                    if (!rows.get(i).contains(c)) {
                        List<Integer> longer = new ArrayList<>(rows.get(i));
                        longer.add(c);
                        rows.add(longer);
                    }
                }
            }
            List<Integer> best = null;
            long least = Long.MAX_VALUE;
            for (List<Integer> r : rows) {
                long[] p = Arrays.copyOf(portions, 4);
                long cost = 0;
                for (int c : r) {
                    cost += cleaners[c * 5 + 4];
                    for (int s = 0; s < 4; s++) {
                        p[s] -= p[s] * cleaners[c * 5 + s] / 100;
                    }
                }
                if (all(p) <= most && cost < least) {
                    least = cost;
                    best = r;
                }
            }
            want(best != null, 6);
            row = best;
            return least;
        }

        private long gauge(long[] light, long[] drawn, int many, long span) {
            for (int i = 0; i < many; i++) {
                want(in(light[i], 0, 999) && in(drawn[i], 0, 99999), 1);
            }
            List<int[]> fit = new ArrayList<>();
            for (int a = 0; a < 100; a++) {
                for (int b = 0; b < 1000; b++) {
                    boolean near = true;
                    for (int i = 0; i < many && near; i++) {
                        near = Math.abs(drawn[i] - a * light[i] - b) <= span;
                    }
                    if (near) {
                        fit.add(new int[] {a, b});
                    }
                }
            }
            lines = fit;
            return fit.size();
        }
    }

    // ---- the runs

    private static final int RUNS = 400;
    private static final int CALLS = 500;
    private static int wrong = 0;

    private final Random random;
    private final int run;
    private final FlueHouse house = new FlueHouse();
    private final Model model = new Model();
    private final StringBuilder story = new StringBuilder();
    private int calls = 0;

    private ModelTest(int run) {
        this.run = run;
        this.random = new Random(run * 7919L + 17);
    }

    public static void main(String[] args) {
        int runs = args.length > 0 ? Integer.parseInt(args[0]) : RUNS;
        for (int run = 0; run < runs && wrong == 0; run++) {
            new ModelTest(run).play();
        }
        System.out.println(wrong == 0 ? "all runs agree with the model" : "a run does not agree with the model");
        if (wrong != 0) {
            System.exit(1);
        }
    }

    private void play() {
        while (calls < CALLS && wrong == 0) {
            act();
        }
    }

    private int chance(int n) {
        return random.nextInt(n);
    }

    /** Mostly within the bounds, now and then just outside, or far. */
    private long within(int least, int most) {
        int dice = chance(60);
        if (dice == 0) {
            return least - 1;
        }
        if (dice == 1) {
            return most + 1;
        }
        if (dice == 2) {
            return random.nextInt();
        }
        if (dice < 6) {
            return dice == 3 ? least : most;
        }
        return most < least ? least : least + chance(most - least + 1);
    }

    private long call(String name, long... a) {
        long want = model.call(name, a);
        long got = answer(name, a);
        calls++;
        story.append(name).append(Arrays.toString(a)).append(" -> ").append(got).append('\n');
        if (got != want || house.status() != model.status) {
            wrong++;
            System.out.println(story);
            System.out.println("run " + run + ": " + name + Arrays.toString(a) + " answered " + got + " with status "
                + house.status() + ", due is " + want + " with status " + model.status);
            throw new IllegalStateException("run " + run);
        }
        return got;
    }

    private long answer(String name, long[] a) {
        int[] i = new int[5];
        for (int k = 0; k < a.length; k++) {
            i[k] = (int) a[k];
        }
        return switch (name) {
            case "tray" -> house.tray(i[0], i[1], i[2]) ? 1 : 0;
            case "write" -> house.write(i[0], i[1], a[2]) ? 1 : 0;
            case "read" -> house.read(i[0], i[1]);
            case "pour" -> house.pour(i[0], i[1], i[2], i[3], i[4]) ? 1 : 0;
            case "feed" -> house.feed(i[0], i[1], i[2], i[3], i[4]);
            case "plant" -> house.plant(i[0]);
            case "laws" -> house.laws(i[0]);
            case "fault" -> house.fault(i[0]);
            case "cleaner" -> house.cleaner(i[0], i[1]);
            case "works" -> house.works(i[0]);
            case "row" -> house.row(i[0], i[1], i[2], i[3], i[4]) ? 1 : 0;
            case "warmth" -> house.warmth(i[0], i[1]) ? 1 : 0;
            case "knock" -> house.knock(i[0], i[1], i[2]) ? 1 : 0;
            case "hole" -> house.hole(i[0], i[1], i[2], i[3]) ? 1 : 0;
            case "off" -> house.off(i[0], i[1], i[2], i[3]) ? 1 : 0;
            case "asof" -> house.asof(i[0]) ? 1 : 0;
            case "up" -> house.up(i[0], i[1]);
            case "at" -> house.at(i[0], i[1], i[2], i[3]);
            case "whose" -> house.whose(i[0], i[1], i[2]);
            case "broken" -> house.broken(i[0], i[1]);
            case "breach" -> house.breach(i[0]);
            case "torn" -> house.torn(i[0], i[1], i[2], i[3]);
            case "tornTold" -> house.tornTold(i[0]);
            case "knocks" -> house.knocks(i[0], i[1], i[2], i[3], i[4]);
            case "knockSet" -> house.knockSet();
            case "rowOf" -> house.rowOf(i[0], i[1], i[2], i[3]);
            case "rowAt" -> house.rowAt(i[0]);
            case "air" -> house.air(i[0], i[1], i[2], i[3]);
            case "gauge" -> house.gauge(i[0], i[1], i[2], i[3]);
            default -> house.gaugeTold(i[0], i[1]);
        };
    }

    private void act() {
        int cleaners = model.plant.cleaners.size();
        int dice = chance(100);
        if (cleaners == 0 && dice < 60) {
            text("plant", plantText(), true);
            for (int i = chance(60); i > 0 && model.plant.cleaners.size() > 0; i--) {
                tell(model.plant.cleaners.size());
            }
        } else if (dice < 3) {
            text(chance(2) == 0 ? "plant" : "laws", null, chance(4) > 0);
        } else if (dice < 5) {
            text("laws", lawsText(), true);
        } else if (dice < 40) {
            tell(cleaners);
        } else if (dice < 80) {
            ask(cleaners);
        } else if (dice < 85) {
            trays();
        } else if (dice < 90) {
            paper();
        } else if (dice < 92) {
            hunt(cleaners);
        } else {
            call("tornTold", within(0, 2));
            call("knockSet");
            call("rowAt", within(0, 4));
            call("gaugeTold", within(0, 999), within(0, 1));
        }
    }

    private void text(String name, String given, boolean whole) {
        String text = given != null ? given : mutated(name.equals("plant") ? plantText() : lawsText());
        byte[] bytes = text.getBytes(StandardCharsets.ISO_8859_1);
        for (int i = 0; i < bytes.length; i += 20) {
            long[] five = new long[5];
            for (int k = 0; k < 20; k++) {
                five[k / 4] |= (i + k < bytes.length ? bytes[i + k] & 255L : 0) << (24 - k % 4 * 8);
            }
            for (int k = 0; k < 5; k++) {
                five[k] = (int) five[k];
            }
            call("feed", five);
        }
        int length = Math.min(bytes.length, model.tape.length());
        call(name, whole || chance(3) > 0 ? length : within(0, length));
        call("fault", within(0, 1));
        call("fault", 0);
        call("fault", 1);
    }

    private String blank() {
        return chance(8) == 0 ? "\n " : " ";
    }

    private String plantText() {
        List<String> names = new ArrayList<>(List.of("a", "b", "c", "dd", "eee", "ffff", "abcdefgh", "st", "stacks", "joi"));
        StringBuilder s = new StringBuilder();
        int many = 1 + chance(chance(8) == 0 ? 9 : 6);
        List<String> told = new ArrayList<>();
        for (int c = 0; c < many; c++) {
            int sort = chance(4);
            String name = names.remove(chance(names.size()));
            told.add(name);
            s.append(SORTS.get(sort)).append(blank()).append(name).append(" holds ");
            for (int k = 0; k < 4; k++) {
                s.append(k > 0 ? "," : "").append(chance(3) == 0 ? 100 : chance(101));
            }
            if (sort > 0) {
                s.append(List.of(" layer ", " full ", " warm ").get(sort - 1)).append(1 + chance(chance(2) == 0 ? 300 : 9999));
            }
            s.append(sort == 1 ? " flies " + chance(101) : "").append(";");
        }
        for (int c = 0; c < told.size(); c++) {
            if (chance(3) > 0) {
                List<String> goals = new ArrayList<>(told.subList(c + 1, told.size()));
                goals.add("stack");
                int ways = 1 + chance(Math.min(4, goals.size()));
                int left = 100;
                s.append("join ").append(told.get(c)).append(" to ");
                for (int w = 0; w < ways; w++) {
                    int share = w == ways - 1 ? left : chance(left + 1);
                    left -= share;
                    s.append(w > 0 ? ", " : "").append(goals.remove(chance(goals.size()))).append(" share ").append(share);
                }
                s.append(";");
            }
        }
        int works = 1 + chance(4);
        for (int w = 0; w < works; w++) {
            s.append("works ").append((char) ('p' + w)).append(" at ").append(told.get(chance(told.size()))).append(";");
        }
        return s.length() > 600 ? plantText() : s.toString();
    }

    private String lawsText() {
        StringBuilder s = new StringBuilder();
        int many = 1 + chance(chance(6) == 0 ? 9 : 4);
        for (int l = 0; l < many; l++) {
            s.append((char) ('a' + l)).append(chance(2) == 0 ? ": " : " :").append(sumText(chance(5)))
                .append(" over ").append(1 + chance(chance(2) == 0 ? 3 : 24)).append(" below ")
                .append(chance(2) == 0 ? chance(9999) : chance(100)).append(";").append(blank());
        }
        return s.length() > 600 ? lawsText() : s.toString();
    }

    private String sumText(int deep) {
        StringBuilder s = new StringBuilder();
        int atoms = 1 + chance(4);
        for (int i = 0; i < atoms; i++) {
            s.append(i == 0 ? "" : List.of(" + ", "-", "*").get(chance(3)));
            if (deep > 0 && chance(3) == 0) {
                s.append("(").append(sumText(deep - 1)).append(")");
            } else {
                s.append(chance(3) == 0 ? "" + chance(chance(2) == 0 ? 10 : 10000) : VARIABLES.get(chance(6)));
            }
        }
        return s.toString();
    }

    /** One token in place of another of its kind. */
    private String swapped(String text) {
        List<Token> tokens = new Tokens(text, "").all;
        Token one = tokens.get(chance(tokens.size()));
        Token other = tokens.get(chance(tokens.size()));
        for (int i = 0; i < 20 && Tokens.sort(one.text.charAt(0)) != Tokens.sort(other.text.charAt(0)); i++) {
            other = tokens.get(chance(tokens.size()));
        }
        String in = chance(4) == 0 ? "" + chance(130) : other.text;
        return text.substring(0, one.place) + in + text.substring(one.place + one.text.length());
    }

    private String mutated(String text) {
        if (chance(2) == 0) {
            String swapped = swapped(text);
            return swapped.length() > 600 ? text : swapped;
        }
        StringBuilder s = new StringBuilder(text);
        List<String> bits = List.of("stack", "share", "join a", "a", "b", "101", "0", "12345", ";", ",", "(", ")", "+",
            "*", ":", "over", "below", "fine", "holds", " ", "cyclone", "to", "works", "abcdefghi", "?", "A", "\n", "50",
            "((((((((", "\u00e9", "join b to c share 50, c share 50;", "cloth z holds 1,2,3,4 full 0;");
        int many = 1 + chance(2);
        for (int i = 0; i < many && s.length() > 0; i++) {
            int at = chance(s.length());
            int dice = chance(4);
            if (dice == 0) {
                s.delete(at, Math.min(s.length(), at + 1 + chance(6)));
            } else if (dice == 1) {
                s.setLength(at);
            } else {
                s.insert(at, bits.get(chance(bits.size())));
            }
        }
        if (s.length() > 600) {
            s.setLength(600);
        }
        return s.toString();
    }

    private void tell(int cleaners) {
        int works = model.plant.works.size();
        int known = Math.min(99, model.known + (chance(12) == 0 ? 1 : 0));
        long by = chance(20) == 0 ? within(0, 99) : known;
        if (by > known + 5 && by < 100) {
            by = known;
        }
        int dice = chance(20);
        if (dice < 12) {
            int most = chance(3) == 0 ? 9999 : 200;
            call("row", within(0, works - 1), chance(4) == 0 ? within(0, 47) : chance(8), chance(2) == 0 ? 0 : within(0, 3),
                within(0, most), by);
        } else if (dice == 12) {
            call("warmth", within(0, 47), chance(2) == 0 ? within(0, 9999) : chance(300));
        } else if (dice < 15) {
            call("knock", within(0, cleaners - 1), chance(2) == 0 ? within(0, 47) : chance(8), by);
        } else if (dice < 17) {
            call("hole", within(0, cleaners - 1), within(0, 47), within(1, 100), by);
        } else if (dice == 17) {
            long from = within(0, 47);
            call("off", within(0, cleaners - 1), from, chance(2) == 0 ? within(0, 47) : from + chance(3), by);
        } else if (dice == 18) {
            call("asof", chance(2) == 0 ? 99 : within(0, 99));
        } else {
            call("asof", within(Math.max(0, model.known - 3), 99));
        }
    }

    private void ask(int cleaners) {
        long hour = chance(4) == 0 ? within(0, 47) : chance(9);
        switch (chance(8)) {
            case 0:
                call("cleaner", within(0, cleaners - 1), within(0, 5));
                call("works", within(0, model.plant.works.size() - 1));
                break;
            case 1:
                call("whose", within(0, model.plant.works.size() - 1), hour, chance(2) == 0 ? 0 : within(0, 3));
                break;
            case 2:
                call("broken", within(0, model.laws.size() - 1), hour);
                break;
            case 3:
                call("breach", within(0, 1));
                break;
            case 4:
                call("up", hour, within(-1, 3));
                break;
            default:
                call("at", within(0, cleaners - 1), hour, within(-1, 3), within(0, 4));
                break;
        }
    }

    private void trays() {
        long tray = within(0, 3);
        int dice = chance(10);
        if (dice == 0) {
            call("tray", tray, within(0, 3), chance(2) == 0 ? within(0, 60) : within(0, 6));
        } else if (dice < 4) {
            call("write", tray, within(0, 8), chance(2) == 0 ? random.nextLong() : within(0, 300));
        } else if (dice < 8) {
            call("read", tray, within(0, 8));
        } else {
            call("pour", tray, within(0, 5), chance(3) == 0 ? tray : within(0, 3), within(0, 5), within(0, 5));
        }
    }

    private void fill(int tray, int sort, long... numbers) {
        call("tray", tray, sort, numbers.length);
        for (int i = 0; i < numbers.length; i++) {
            call("write", tray, i, numbers[i]);
        }
    }

    private long[] numbers(int many, int least, int most) {
        long[] n = new long[many];
        for (int i = 0; i < many; i++) {
            n[i] = chance(40) == 0 ? within(least, most) : least + chance(most - least + 1);
        }
        return n;
    }

    private void paper() {
        int tray = chance(4);
        int other = chance(10) == 0 ? tray : (tray + 1) % 4;
        int dice = chance(8);
        if (dice < 2) {
            int many = 1 + chance(8);
            fill(tray, 1 + chance(3), numbers(many, 1, chance(2) == 0 ? 100 : 5));
            int parts = (int) within(0, 200);
            for (int k = 0; k < 3; k++) {
                call("air", tray, within(many, many), parts, within(0, many - 1));
            }
        } else if (dice < 4) {
            int many = 1 + chance(7);
            long[] all = numbers(many * 5, 0, 100);
            long[] portions = numbers(4, 0, chance(2) == 0 ? 9999 : 30);
            fill(tray, 2 + chance(2), all);
            fill(other, 2, portions);
            long sum = Arrays.stream(portions).sum();
            for (int k = 0; k < 5; k++) {
                call("rowOf", tray, within(many, many), other, within(0, (int) Math.max(0, Math.min(40000, sum / 2))));
                call("rowAt", within(0, 3));
                call("rowAt", 0);
            }
        } else if (dice < 6) {
            int many = 1 + chance(6);
            long[] light = numbers(many, 0, chance(2) == 0 ? 999 : 40);
            long[] drawn = new long[many];
            int a = chance(100);
            int b = chance(1000);
            for (int i = 0; i < many; i++) {
                drawn[i] = Math.min(99999, Math.max(0, a * light[i] + b + chance(9) - 4));
            }
            fill(tray, 1 + chance(3), light);
            fill(other, 2, drawn);
            for (int k = 0; k < 3; k++) {
                call("gauge", tray, other, within(many, many), chance(3) == 0 ? within(0, 1000) : chance(12));
                call("gaugeTold", within(0, 999), within(0, 1));
                call("gaugeTold", within(0, 999), chance(2));
            }
        } else {
            call("air", within(0, 3), within(1, 8), within(0, 200), within(0, 7));
            call("rowOf", within(0, 3), within(1, 7), within(0, 3), within(0, 40000));
            call("gauge", within(0, 3), within(0, 3), within(1, 10), within(0, 1000));
        }
    }

    private void hunt(int cleaners) {
        int tray = chance(4);
        if (chance(2) == 0) {
            int many = 1 + chance(6);
            int last = chance(2) == 0 ? 10 : 47;
            List<Long> hours = new ArrayList<>();
            for (int i = 0; i < many; i++) {
                long h = chance(last + 1);
                if (!hours.contains(h) || chance(30) == 0) {
                    hours.add(h);
                }
            }
            fill(tray, chance(4), hours.stream().mapToLong(h -> h).toArray());
            for (int k = 0; k < 3; k++) {
                call("knocks", within(0, cleaners - 1), tray, hours.size(), within(0, hours.size()), within(0, last));
                call("knockSet");
            }
            return;
        }
        int many = 1 + chance(6);
        int from = chance(chance(4) == 0 ? 42 : 5);
        List<Event> more = new ArrayList<>();
        for (int c = 0; c < cleaners; c++) {
            if (model.plant.cleaner(c).sort == 2 && chance(2) == 0) {
                more = List.of(new Event('h', c, chance(from + many), 0, 10 + 10 * chance(10), 0));
            }
        }
        Told t = model.step(more, from + many);
        long[] row = new long[many];
        for (int i = 0; i < many; i++) {
            row[i] = Model.all(t.up[from + i]) + (chance(3) == 0 ? chance(7) - 3 : 0);
        }
        fill(tray, 2 + chance(2), row);
        for (int k = 0; k < 2; k++) {
            call("torn", tray, from, chance(10) == 0 ? within(1, 24) : many, chance(2) == 0 ? chance(8) : within(0, 1000));
            for (int what = 0; what < 3; what++) {
                call("tornTold", what);
            }
        }
        call("torn", within(0, 3), chance(6) == 0 ? within(0, 47) : chance(4), within(1, 4), within(0, 1000));
    }
}
