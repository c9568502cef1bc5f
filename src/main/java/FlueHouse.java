import java.util.Arrays;

/** A house that cleans the smoke of works; DOC.md says what each call promises. */
public final class FlueHouse {
    public static final int NONE = -1;

    private static final int HOURS = 48;
    private static final int SIZES = 4;
    private static final int WHOLE = 100;
    private static final int MOST_CLEANERS = 8;
    private static final int MOST_WORKS = 4;
    private static final int MOST_WAYS = 8;
    private static final int MOST_ROWS = 200;
    private static final int MOST_EVENTS = 40;
    private static final int MOST_PORTIONS = 9999;
    private static final int LAST_KNOWN = 99;

    private static final int TRAYS = 4;
    private static final int SORTS = 4;
    private static final int MOST_NUMBERS = 60;
    private static final int TAPE = 600;

    private static final int STATUS_FINE = 0;
    private static final int STATUS_WRONG = 1;
    private static final int STATUS_MISSING = 2;
    private static final int STATUS_TOO_FEW = 3;
    private static final int STATUS_TOO_MANY = 4;
    private static final int STATUS_GONE = 5;
    private static final int STATUS_NONE_SUCH = 6;
    private static final int STATUS_OTHER_SORT = 7;
    private static final int STATUS_UNLIKE = 8;
    private static final int STATUS_FAULT = 9;

    private static final int CYCLONE = 0;
    private static final int PLATES = 1;
    private static final int CLOTH = 2;
    private static final int SPRAY = 3;

    private static final int EVENT_KNOCK = 0;
    private static final int EVENT_HOLE = 1;
    private static final int EVENT_OFF = 2;

    private static final int TOKEN_END = 0;
    private static final int TOKEN_WORD = 1;
    private static final int TOKEN_NUMBER = 2;
    private static final int TOKEN_SIGN = 3;
    private static final int TOKEN_BAD = 4;
    private static final int MOST_LETTERS = 8;
    private static final int MOST_DIGITS = 4;
    private static final int FAULT_TOKEN = 1;
    private static final int FAULT_STANDS = 2;

    // The first four stand in the order of the sorts of cleaners, so that a word's place is its sort.
    private static final String PLANT_WORDS =
        "cyclone plates cloth spray join works holds layer flies full warm to at share stack ";
    private static final String PLANT_SIGNS = ";,";
    private static final int WORD_JOIN = 4;
    private static final int WORD_WORKS = 5;
    private static final int WORD_HOLDS = 6;
    private static final int WORD_LAYER = 7;
    private static final int WORD_FLIES = 8;
    private static final int WORD_FULL = 9;
    private static final int WORD_WARM = 10;
    private static final int WORD_TO = 11;
    private static final int WORD_AT = 12;
    private static final int WORD_SHARE = 13;
    private static final int WORD_STACK = 14;
    private static final int PLANT_FAULT_NAME = 3;
    private static final int PLANT_FAULT_NUMBER = 4;
    private static final int PLANT_FAULT_WAY = 5;
    private static final int PLANT_FAULT_MANY = 6;
    private static final int PLANT_FAULT_SHARES = 7;

    // The variables come first: sizes 0 to 3, warmth, hour.
    private static final String LAW_WORDS = "fine small coarse grit warmth hour over below ";
    private static final String LAW_SIGNS = ":;+-*()";
    private static final int VARIABLE_WARMTH = 4;
    private static final int VARIABLES = 6;
    private static final int WORD_OVER = 6;
    private static final int WORD_BELOW = 7;
    private static final int LAW_FAULT_MANY = 3;
    private static final int LAW_FAULT_NAME = 4;
    private static final int LAW_FAULT_BRACKETS = 5;
    private static final int LAW_FAULT_NUMBER = 6;
    private static final int MOST_LAWS = 8;
    private static final int MOST_OVER = 24;
    private static final int MOST_BRACKETS = 6;

    // A step of a law's sum: a number up to 9,999, else one of these.
    private static final int STEP_VARIABLE = 10000;
    private static final int STEP_PLUS = 10010;
    private static final int STEP_MINUS = 10011;
    private static final int STEP_TIMES = 10012;
    private static final int STACK_DEPTH = 32;

    private static final int MOST_TORN_HOURS = 24;
    private static final int MOST_SPAN = 1000;
    private static final int HOLE_STEP = 10;
    private static final int MOST_KNOCK_HOURS = 6;

    private static final int MOST_PAPER_CLEANERS = 7;
    private static final int PAPER_NUMBERS = 5;
    private static final int MOST_IN_ROW = 4;
    private static final int MOST_COST = 1000;
    private static final int MOST_PASSING = 40000;
    private static final int MOST_FLUES = 8;
    private static final int MOST_PARTS = 200;
    private static final int MOST_HINDRANCE = 100;
    private static final int MOST_LIGHTS = 10;
    private static final int MOST_LIGHT = 999;
    private static final int MOST_DRAWN = 99999;
    private static final int LINE_SLOPES = 100;
    private static final int LINE_MOST_START = 999;

    private int latestStatus = STATUS_FINE;
    private final Tape tape = new Tape();
    private final Trays trays = new Trays();
    private Plant plantNow = new Plant();
    private Plant plantSpare = new Plant();
    private Laws lawsNow = new Laws();
    private Laws lawsSpare = new Laws();
    private final Book book = new Book();
    private final Flow flow = new Flow();
    private final Parter parter = new Parter();
    private final Hunt hunt = new Hunt();
    private final Paper paper = new Paper();

    public FlueHouse() {
    }

    public int status() {
        return latestStatus;
    }

    // ---- TRAYS

    public boolean tray(int tray, int sort, int many) {
        if (!isTray(tray) || sort < 0 || sort >= SORTS || many < 0 || many > MOST_NUMBERS) {
            return deny(STATUS_WRONG);
        }
        trays.lay(tray, sort, many);
        return done();
    }

    public boolean write(int tray, int place, long v) {
        int why = placeStatus(tray, place);
        if (why != STATUS_FINE) {
            return deny(why);
        }
        trays.put(tray, place, v);
        return done();
    }

    public long read(int tray, int place) {
        int why = placeStatus(tray, place);
        if (why != STATUS_FINE) {
            return refuse(why);
        }
        latestStatus = STATUS_FINE;
        return trays.get(tray, place);
    }

    public boolean pour(int from, int place, int to, int at, int many) {
        if (!isTray(from) || !isTray(to) || place < 0 || at < 0 || many < 0) {
            return deny(STATUS_WRONG);
        }
        if (trays.isMissing(from) || trays.isMissing(to)) {
            return deny(STATUS_MISSING);
        }
        if (!trays.areAlike(from, to)) {
            return deny(STATUS_UNLIKE);
        }
        if (!trays.hasRun(from, place, many) || !trays.hasRun(to, at, many)) {
            return deny(STATUS_TOO_FEW);
        }
        trays.move(from, place, to, at, many);
        return done();
    }

    // ---- PLANT and LAWS

    public int feed(int a, int b, int c, int d, int e) {
        if (!tape.hasRoom()) {
            return NONE;
        }
        tape.append(a);
        tape.append(b);
        tape.append(c);
        tape.append(d);
        tape.append(e);
        return tape.count;
    }

    public int plant(int n) {
        if (n < 0 || n > tape.count) {
            return refuse(STATUS_WRONG);
        }
        tape.open(n, PLANT_SIGNS, PLANT_WORDS);
        if (!plantSpare.readFrom(tape)) {
            return refuse(STATUS_FAULT);
        }
        Plant old = plantNow;
        plantNow = plantSpare;
        plantSpare = old;
        book.forget();
        return answer(plantNow.cleaners);
    }

    public int laws(int n) {
        if (n < 0 || n > tape.count) {
            return refuse(STATUS_WRONG);
        }
        tape.open(n, LAW_SIGNS, LAW_WORDS);
        if (!lawsSpare.readFrom(tape)) {
            return refuse(STATUS_FAULT);
        }
        Laws old = lawsNow;
        lawsNow = lawsSpare;
        lawsSpare = old;
        return answer(lawsNow.count);
    }

    public int fault(int what) {
        if (what == 0) {
            return tape.faultKind;
        }
        return what == 1 ? tape.faultPlace : NONE;
    }

    public int cleaner(int c, int what) {
        if (!isCleaner(c) || what < 0 || what > 1 + SIZES) {
            return refuse(STATUS_WRONG);
        }
        if (what == 0) {
            return answer(plantNow.sorts[c]);
        }
        if (what == 1) {
            return answer(plantNow.wayCounts[c]);
        }
        return answer(plantNow.holds[c * SIZES + what - 2]);
    }

    public int works(int w) {
        if (!isWorks(w)) {
            return refuse(STATUS_WRONG);
        }
        return answer(plantNow.worksAt[w]);
    }

    // ---- ROWS and EVENTS

    public boolean row(int works, int hour, int size, int portions, int known) {
        if (!isWorks(works) || !isHour(hour) || !isSize(size) || portions < 0 || portions > MOST_PORTIONS
                || !isKnownHour(known)) {
            return deny(STATUS_WRONG);
        }
        int why = book.rowStatus(known);
        if (why != STATUS_FINE) {
            return deny(why);
        }
        book.addRow(Book.cell(works, hour, size), portions, known);
        return done();
    }

    public boolean warmth(int hour, int much) {
        if (!isHour(hour) || much < 0 || much > MOST_PORTIONS) {
            return deny(STATUS_WRONG);
        }
        book.setWarmth(hour, much);
        return done();
    }

    public boolean knock(int c, int hour, int known) {
        if (!isCleaner(c) || !isHour(hour) || !isKnownHour(known)) {
            return deny(STATUS_WRONG);
        }
        int why = book.eventStatus(known);
        if (why == STATUS_FINE && !plantNow.keepsLayer(c)) {
            why = STATUS_OTHER_SORT;
        }
        if (why != STATUS_FINE) {
            return deny(why);
        }
        book.addEvent(EVENT_KNOCK, c, hour, 0, known);
        return done();
    }

    public boolean hole(int c, int hour, int much, int known) {
        if (!isCleaner(c) || !isHour(hour) || much < 1 || much > WHOLE || !isKnownHour(known)) {
            return deny(STATUS_WRONG);
        }
        int why = book.eventStatus(known);
        if (why == STATUS_FINE && plantNow.sorts[c] != CLOTH) {
            why = STATUS_OTHER_SORT;
        }
        if (why != STATUS_FINE) {
            return deny(why);
        }
        book.addEvent(EVENT_HOLE, c, hour, much, known);
        return done();
    }

    public boolean off(int c, int from, int to, int known) {
        if (!isCleaner(c) || !isHour(from) || !isHour(to) || to < from || !isKnownHour(known)) {
            return deny(STATUS_WRONG);
        }
        int why = book.eventStatus(known);
        if (why != STATUS_FINE) {
            return deny(why);
        }
        book.addEvent(EVENT_OFF, c, from, to, known);
        return done();
    }

    public boolean asof(int hour) {
        if (!isKnownHour(hour)) {
            return deny(STATUS_WRONG);
        }
        book.setAsOf(hour);
        return done();
    }

    // ---- what goes through

    public int up(int hour, int size) {
        if (!isHour(hour) || !isSizeOrAll(size)) {
            return refuse(STATUS_WRONG);
        }
        stepThrough(hour);
        return answer(flow.upOf(hour, size));
    }

    public int at(int c, int hour, int size, int what) {
        if (!isCleaner(c) || !isHour(hour) || !isSizeOrAll(size) || what < 0 || what > 4) {
            return refuse(STATUS_WRONG);
        }
        stepToEndOf(hour);
        return answer(flow.amountOf(c, size, what));
    }

    public int whose(int works, int hour, int size) {
        if (!isWorks(works) || !isHour(hour) || !isSize(size)) {
            return refuse(STATUS_WRONG);
        }
        stepThrough(hour);
        long whole = 0;
        for (int w = 0; w < plantNow.works; w++) {
            int portions = book.dust[Book.cell(w, hour, size)];
            parter.weights[w] = portions;
            whole += portions;
        }
        if (whole == 0) {
            return answer(0);
        }
        parter.share(flow.upOf(hour, size), plantNow.works, whole);
        return answer(parter.parts[works]);
    }

    public int broken(int law, int hour) {
        if (law < 0 || law >= lawsNow.count || !isHour(hour)) {
            return refuse(STATUS_WRONG);
        }
        stepThrough(hour);
        return answer(lawsNow.isBroken(law, hour, flow.ups, book.warmths) ? 1 : 0);
    }

    public int breach(int what) {
        if (what < 0 || what > 1) {
            return refuse(STATUS_WRONG);
        }
        stepThrough(HOURS - 1);
        int law = NONE;
        int first = HOURS;
        for (int l = 0; l < lawsNow.count; l++) {
            int hour = lawsNow.firstBroken(l, flow.ups, book.warmths);
            if (hour != NONE && hour < first) {
                first = hour;
                law = l;
            }
        }
        if (law == NONE) {
            return refuse(STATUS_NONE_SUCH);
        }
        return answer(what == 0 ? first : law);
    }

    // ---- TORN, KNOCKS

    public int torn(int tray, int from, int many, int span) {
        if (!isTray(tray) || !isHour(from) || many < 1 || many > MOST_TORN_HOURS || from + many > HOURS
                || !isSpan(span)) {
            return refuse(STATUS_WRONG);
        }
        int why = rowStatus(tray, many);
        if (why != STATUS_FINE) {
            return refuse(why);
        }
        freshen();
        hunt.takeUps(trays, tray, from, many, span);
        return answer(hunt.countHoles(flow, plantNow, book));
    }

    public int tornTold(int what) {
        if (what < 0 || what > 2) {
            return refuse(STATUS_WRONG);
        }
        if (hunt.cloth == NONE) {
            return refuse(STATUS_NONE_SUCH);
        }
        if (what == 0) {
            return answer(hunt.cloth);
        }
        return answer(what == 1 ? hunt.holeHour : hunt.holeMuch);
    }

    public int knocks(int c, int tray, int many, int n, int to) {
        if (!isCleaner(c) || !isTray(tray) || many < 1 || many > MOST_KNOCK_HOURS || n < 0 || n > many
                || !isHour(to)) {
            return refuse(STATUS_WRONG);
        }
        int why = rowStatus(tray, many);
        if (why != STATUS_FINE) {
            return refuse(why);
        }
        if (!trays.areWithin(tray, many, HOURS - 1) || trays.hasTwoAlike(tray, many)) {
            return refuse(STATUS_WRONG);
        }
        if (!plantNow.keepsLayer(c)) {
            return refuse(STATUS_OTHER_SORT);
        }
        freshen();
        hunt.takeHours(trays, tray, many);
        return answer(hunt.leastUp(plantNow, book, c, n, to));
    }

    public int knockSet() {
        if (hunt.bestSet == NONE) {
            return refuse(STATUS_NONE_SUCH);
        }
        return answer(hunt.bestSet);
    }

    // ---- on paper

    public int rowOf(int cleaners, int many, int portions, int most) {
        if (!isTray(cleaners) || many < 1 || many > MOST_PAPER_CLEANERS || !isTray(portions) || most < 0
                || most > MOST_PASSING) {
            return refuse(STATUS_WRONG);
        }
        int why = bothStatus(cleaners, many * PAPER_NUMBERS, portions, SIZES);
        if (why != STATUS_FINE) {
            return refuse(why);
        }
        if (!paper.takeCleaners(trays, cleaners, many) || !paper.takePortions(trays, portions)) {
            return refuse(STATUS_WRONG);
        }
        int cost = paper.cheapest(many, most);
        return cost == NONE ? refuse(STATUS_NONE_SUCH) : answer(cost);
    }

    public int rowAt(int k) {
        if (k < 0) {
            return refuse(STATUS_WRONG);
        }
        if (k >= paper.rowLength || k >= MOST_IN_ROW) {
            return refuse(STATUS_NONE_SUCH);
        }
        return answer(paper.rowCleaners[k]);
    }

    public int air(int tray, int many, int parts, int flue) {
        if (!isTray(tray) || many < 1 || many > MOST_FLUES || parts < 0 || parts > MOST_PARTS || flue < 0
                || flue >= many) {
            return refuse(STATUS_WRONG);
        }
        int why = rowStatus(tray, many);
        if (why != STATUS_FINE) {
            return refuse(why);
        }
        if (!paper.takeHindrances(trays, tray, many)) {
            return refuse(STATUS_WRONG);
        }
        paper.partAir(many, parts);
        return answer(paper.flueParts[flue]);
    }

    public int gauge(int light, int drawn, int many, int span) {
        if (!isTray(light) || !isTray(drawn) || many < 1 || many > MOST_LIGHTS || !isSpan(span)) {
            return refuse(STATUS_WRONG);
        }
        int why = bothStatus(light, many, drawn, many);
        if (why != STATUS_FINE) {
            return refuse(why);
        }
        if (!trays.areWithin(light, many, MOST_LIGHT) || !trays.areWithin(drawn, many, MOST_DRAWN)) {
            return refuse(STATUS_WRONG);
        }
        paper.clearLines();
        for (int i = 0; i < many; i++) {
            paper.narrowLines((int) trays.get(light, i), (int) trays.get(drawn, i), span);
        }
        return answer(paper.countLines());
    }

    public int gaugeTold(int light, int what) {
        if (light < 0 || light > MOST_LIGHT || what < 0 || what > 1) {
            return refuse(STATUS_WRONG);
        }
        int told = what == 0 ? paper.leastTold(light) : paper.mostTold(light);
        return told == NONE ? refuse(STATUS_NONE_SUCH) : answer(told);
    }

    // ---- what the calls share

    private int refuse(int why) {
        latestStatus = why;
        return NONE;
    }

    private boolean deny(int why) {
        latestStatus = why;
        return false;
    }

    private int answer(int value) {
        latestStatus = STATUS_FINE;
        return value;
    }

    private boolean done() {
        latestStatus = STATUS_FINE;
        return true;
    }

    private static boolean isTray(int tray) {
        return tray >= 0 && tray < TRAYS;
    }

    private static boolean isHour(int hour) {
        return hour >= 0 && hour < HOURS;
    }

    private static boolean isKnownHour(int hour) {
        return hour >= 0 && hour <= LAST_KNOWN;
    }

    private static boolean isSize(int size) {
        return size >= 0 && size < SIZES;
    }

    private static boolean isSizeOrAll(int size) {
        return size == NONE || isSize(size);
    }

    private static boolean isSpan(int span) {
        return span >= 0 && span <= MOST_SPAN;
    }

    private boolean isCleaner(int c) {
        return c >= 0 && c < plantNow.cleaners;
    }

    private boolean isWorks(int w) {
        return w >= 0 && w < plantNow.works;
    }

    private int placeStatus(int tray, int place) {
        if (!isTray(tray)) {
            return STATUS_WRONG;
        }
        if (trays.isMissing(tray)) {
            return STATUS_MISSING;
        }
        return trays.hasPlace(tray, place) ? STATUS_FINE : STATUS_TOO_FEW;
    }

    private int rowStatus(int tray, int many) {
        if (trays.isMissing(tray)) {
            return STATUS_MISSING;
        }
        return trays.hasRun(tray, 0, many) ? STATUS_FINE : STATUS_TOO_FEW;
    }

    private int bothStatus(int one, int many, int other, int more) {
        if (trays.isMissing(one) || trays.isMissing(other)) {
            return STATUS_MISSING;
        }
        return trays.hasRun(one, 0, many) && trays.hasRun(other, 0, more) ? STATUS_FINE : STATUS_TOO_FEW;
    }

    private void freshen() {
        if (book.stale) {
            book.gather();
            flow.restart();
        }
    }

    private void stepThrough(int hour) {
        freshen();
        for (int h = flow.next; h <= hour; h++) {
            flow.step(plantNow, book);
        }
    }

    private void stepToEndOf(int hour) {
        // The flow keeps only its latest hour, so an earlier one is stepped to anew.
        if (flow.next > hour + 1) {
            flow.restart();
        }
        stepThrough(hour);
    }

    /** The four trays; all their numbers lie in one array, so that none is made by a call. */
    private static final class Trays {
        private final long[] numbers = new long[TRAYS * MOST_NUMBERS];
        private final int[] sorts = {NONE, NONE, NONE, NONE};
        private final int[] counts = new int[TRAYS];

        boolean isMissing(int tray) {
            return sorts[tray] == NONE;
        }

        boolean areAlike(int one, int other) {
            return sorts[one] == sorts[other];
        }

        boolean hasPlace(int tray, int place) {
            return place >= 0 && place < counts[tray];
        }

        boolean hasRun(int tray, int place, int many) {
            return (long) place + many <= counts[tray];
        }

        void lay(int tray, int sort, int many) {
            sorts[tray] = sort;
            counts[tray] = many;
            Arrays.fill(numbers, tray * MOST_NUMBERS, (tray + 1) * MOST_NUMBERS, 0L);
        }

        long get(int tray, int place) {
            return numbers[tray * MOST_NUMBERS + place];
        }

        void put(int tray, int place, long v) {
            numbers[tray * MOST_NUMBERS + place] = cut(sorts[tray], v);
        }

        void move(int from, int place, int to, int goal, int many) {
            System.arraycopy(numbers, from * MOST_NUMBERS + place, numbers, to * MOST_NUMBERS + goal, many);
        }

        boolean areWithin(int tray, int many, long most) {
            for (int i = 0; i < many; i++) {
                long v = get(tray, i);
                if (v < 0 || v > most) {
                    return false;
                }
            }
            return true;
        }

        boolean hasTwoAlike(int tray, int many) {
            for (int i = 0; i < many; i++) {
                for (int k = i + 1; k < many; k++) {
                    if (get(tray, i) == get(tray, k)) {
                        return true;
                    }
                }
            }
            return false;
        }

        private static long cut(int sort, long v) {
            switch (sort) {
                case 0:
                    return (byte) v;
                case 1:
                    return (short) v;
                case 2:
                    return (int) v;
                default:
                    return v;
            }
        }
    }

    /** The tape of bytes, the token at which a reader of it stands, and the first fault it met. */
    private static final class Tape {
        private final byte[] bytes = new byte[TAPE];
        int count = 0;
        private int end = 0;
        private int next = 0;
        private String signs = "";
        private String words = "";
        private int place = 0;
        int kind = TOKEN_END;
        /** A word's letters, five bits each; 0 for a word that is too long to be any name. */
        long word = 0;
        /** Which of the text's own words it is, or NONE. */
        int key = NONE;
        /** A number's value, or a sign's byte. */
        int number = 0;
        int taken = 0;
        int faultKind = NONE;
        int faultPlace = NONE;

        boolean hasRoom() {
            return count + 20 <= TAPE;
        }

        void append(int four) {
            for (int shift = 24; shift >= 0 && count < TAPE; shift -= 8) {
                bytes[count] = (byte) (four >> shift);
                count++;
            }
        }

        void open(int n, String textSigns, String textWords) {
            end = n;
            next = 0;
            count = 0;
            signs = textSigns;
            words = textWords;
            faultKind = 0;
            faultPlace = NONE;
            advance();
        }

        void advance() {
            while (next < end && (bytes[next] == 32 || bytes[next] == 10)) {
                next++;
            }
            place = next;
            key = NONE;
            if (next >= end) {
                kind = TOKEN_END;
            } else if (isLetter(next)) {
                scanWord();
                key = keyOf(word);
            } else if (isDigit(next)) {
                scanNumber();
            } else {
                number = bytes[next] & 255;
                kind = signs.indexOf((char) number) >= 0 ? TOKEN_SIGN : TOKEN_BAD;
                next++;
            }
        }

        private boolean isLetter(int i) {
            return bytes[i] >= 'a' && bytes[i] <= 'z';
        }

        private boolean isDigit(int i) {
            return bytes[i] >= '0' && bytes[i] <= '9';
        }

        private void scanWord() {
            kind = TOKEN_WORD;
            word = 0;
            while (next < end && isLetter(next)) {
                if (next - place < MOST_LETTERS) {
                    word = word * 32 + (bytes[next] - 'a' + 1);
                }
                next++;
            }
            if (next - place > MOST_LETTERS) {
                word = 0;
            }
        }

        private int keyOf(long wanted) {
            long code = 0;
            int index = 0;
            for (int i = 0; i < words.length(); i++) {
                char c = words.charAt(i);
                if (c != ' ') {
                    code = code * 32 + (c - 'a' + 1);
                } else if (code == wanted) {
                    return index;
                } else {
                    code = 0;
                    index++;
                }
            }
            return NONE;
        }

        private void scanNumber() {
            number = 0;
            while (next < end && isDigit(next)) {
                if (next - place < MOST_DIGITS) {
                    number = number * 10 + (bytes[next] - '0');
                }
                next++;
            }
            kind = next - place > MOST_DIGITS ? TOKEN_BAD : TOKEN_NUMBER;
        }

        boolean isName() {
            return kind == TOKEN_WORD && word != 0 && key == NONE;
        }

        boolean isSign(char sign) {
            return kind == TOKEN_SIGN && number == sign;
        }

        boolean wrong(int faultSort) {
            faultKind = faultSort;
            faultPlace = place;
            return false;
        }

        boolean stands(boolean allowed) {
            if (kind == TOKEN_BAD) {
                return wrong(FAULT_TOKEN);
            }
            return allowed || wrong(FAULT_STANDS);
        }

        boolean takeKey(int wanted) {
            if (!stands(key == wanted)) {
                return false;
            }
            advance();
            return true;
        }

        boolean takeSign(char sign) {
            if (!stands(isSign(sign))) {
                return false;
            }
            advance();
            return true;
        }

        boolean takeNumber(int least, int most, int faultSort) {
            if (!stands(kind == TOKEN_NUMBER)) {
                return false;
            }
            if (number < least || number > most) {
                return wrong(faultSort);
            }
            taken = number;
            advance();
            return true;
        }
    }

    /** The cleaners, their ways and the works of a plant's text. */
    private static final class Plant {
        int cleaners = 0;
        int works = 0;
        private final long[] names = new long[MOST_CLEANERS];
        private final long[] worksNames = new long[MOST_WORKS];
        final int[] sorts = new int[MOST_CLEANERS];
        final int[] holds = new int[MOST_CLEANERS * SIZES];
        /** What layer, full or warm says. */
        final int[] limits = new int[MOST_CLEANERS];
        final int[] flies = new int[MOST_CLEANERS];
        private final boolean[] joined = new boolean[MOST_CLEANERS];
        final int[] wayCounts = new int[MOST_CLEANERS];
        /** The cleaner to which a way leads; NONE: the stack. */
        final int[] wayGoals = new int[MOST_CLEANERS * MOST_WAYS];
        final int[] wayShares = new int[MOST_CLEANERS * MOST_WAYS];
        final int[] worksAt = new int[MOST_WORKS];

        boolean keepsLayer(int c) {
            return sorts[c] == PLATES || sorts[c] == CLOTH;
        }

        boolean readFrom(Tape tape) {
            cleaners = 0;
            works = 0;
            boolean fine = true;
            for (int parts = 0; fine && tape.kind != TOKEN_END && parts <= TAPE; parts++) {
                int word = tape.key;
                if (!tape.stands(word >= 0 && word <= WORD_WORKS)) {
                    return false;
                }
                tape.advance();
                if (word == WORD_JOIN) {
                    fine = readJoin(tape);
                } else {
                    fine = word == WORD_WORKS ? readWorks(tape) : readCleaner(tape, word);
                }
            }
            return fine;
        }

        private boolean readCleaner(Tape tape, int sort) {
            if (!isNewName(tape, cleaners >= MOST_CLEANERS)) {
                return false;
            }
            int c = cleaners;
            cleaners++;
            names[c] = tape.word;
            sorts[c] = sort;
            joined[c] = false;
            wayCounts[c] = 0;
            addWay(c, NONE, WHOLE);
            tape.advance();
            return readHolds(tape, c) && readLimit(tape, c) && tape.takeSign(';');
        }

        private boolean isNewName(Tape tape, boolean full) {
            if (!tape.stands(tape.isName())) {
                return false;
            }
            if (cleanerNamed(tape.word) != NONE || isWorksName(tape.word)) {
                return tape.wrong(PLANT_FAULT_NAME);
            }
            return !full || tape.wrong(PLANT_FAULT_MANY);
        }

        private int cleanerNamed(long name) {
            for (int c = 0; c < cleaners; c++) {
                if (names[c] == name) {
                    return c;
                }
            }
            return NONE;
        }

        private boolean isWorksName(long name) {
            for (int w = 0; w < works; w++) {
                if (worksNames[w] == name) {
                    return true;
                }
            }
            return false;
        }

        private boolean readHolds(Tape tape, int c) {
            if (!tape.takeKey(WORD_HOLDS)) {
                return false;
            }
            for (int size = 0; size < SIZES; size++) {
                if (size > 0 && !tape.takeSign(',')) {
                    return false;
                }
                if (!tape.takeNumber(0, WHOLE, PLANT_FAULT_NUMBER)) {
                    return false;
                }
                holds[c * SIZES + size] = tape.taken;
            }
            return true;
        }

        private boolean readLimit(Tape tape, int c) {
            int sort = sorts[c];
            limits[c] = 0;
            flies[c] = 0;
            if (sort == CYCLONE) {
                return true;
            }
            if (!tape.takeKey(limitWord(sort))
                    || !tape.takeNumber(sort == SPRAY ? 0 : 1, MOST_PORTIONS, PLANT_FAULT_NUMBER)) {
                return false;
            }
            limits[c] = tape.taken;
            if (sort != PLATES) {
                return true;
            }
            if (!tape.takeKey(WORD_FLIES) || !tape.takeNumber(0, WHOLE, PLANT_FAULT_NUMBER)) {
                return false;
            }
            flies[c] = tape.taken;
            return true;
        }

        private static int limitWord(int sort) {
            if (sort == PLATES) {
                return WORD_LAYER;
            }
            return sort == CLOTH ? WORD_FULL : WORD_WARM;
        }

        private boolean readJoin(Tape tape) {
            if (!tape.stands(tape.isName())) {
                return false;
            }
            int c = cleanerNamed(tape.word);
            if (c == NONE) {
                return tape.wrong(PLANT_FAULT_NAME);
            }
            if (joined[c]) {
                return tape.wrong(PLANT_FAULT_WAY);
            }
            joined[c] = true;
            wayCounts[c] = 0;
            tape.advance();
            boolean fine = tape.takeKey(WORD_TO) && readWay(tape, c);
            // No two ways are alike, so one more than the most of them is always a fault.
            for (int w = 0; fine && tape.isSign(',') && w < MOST_WAYS; w++) {
                tape.advance();
                fine = readWay(tape, c);
            }
            return fine && endJoin(tape, c);
        }

        private boolean readWay(Tape tape, int c) {
            boolean stack = tape.key == WORD_STACK;
            if (!tape.stands(stack || tape.isName())) {
                return false;
            }
            int goal = stack ? NONE : cleanerNamed(tape.word);
            if (!stack && goal == NONE) {
                return tape.wrong(PLANT_FAULT_NAME);
            }
            if (hasWay(c, goal) || (!stack && goal <= c)) {
                return tape.wrong(PLANT_FAULT_WAY);
            }
            tape.advance();
            if (!tape.takeKey(WORD_SHARE) || !tape.takeNumber(0, WHOLE, PLANT_FAULT_NUMBER)) {
                return false;
            }
            addWay(c, goal, tape.taken);
            return true;
        }

        private boolean endJoin(Tape tape, int c) {
            if (!tape.stands(tape.isSign(';'))) {
                return false;
            }
            int together = 0;
            for (int w = 0; w < wayCounts[c]; w++) {
                together += wayShares[c * MOST_WAYS + w];
            }
            if (together != WHOLE) {
                return tape.wrong(PLANT_FAULT_SHARES);
            }
            tape.advance();
            return true;
        }

        private boolean hasWay(int c, int goal) {
            for (int w = 0; w < wayCounts[c]; w++) {
                if (wayGoals[c * MOST_WAYS + w] == goal) {
                    return true;
                }
            }
            return false;
        }

        private void addWay(int c, int goal, int share) {
            int w = wayCounts[c];
            if (w < MOST_WAYS) {
                wayGoals[c * MOST_WAYS + w] = goal;
                wayShares[c * MOST_WAYS + w] = share;
                wayCounts[c] = w + 1;
            }
        }

        private boolean readWorks(Tape tape) {
            if (!isNewName(tape, works >= MOST_WORKS)) {
                return false;
            }
            int w = works;
            works++;
            worksNames[w] = tape.word;
            tape.advance();
            if (!tape.takeKey(WORD_AT) || !tape.stands(tape.isName())) {
                return false;
            }
            int c = cleanerNamed(tape.word);
            if (c == NONE) {
                return tape.wrong(PLANT_FAULT_NAME);
            }
            worksAt[w] = c;
            tape.advance();
            return tape.takeSign(';');
        }
    }

    /** The laws of a text; their sums stand as steps for a stack, each operator behind its two sides. */
    private static final class Laws {
        int count = 0;
        private final long[] names = new long[MOST_LAWS];
        private final int[] starts = new int[MOST_LAWS];
        private final int[] ends = new int[MOST_LAWS];
        private final int[] overs = new int[MOST_LAWS];
        private final int[] belows = new int[MOST_LAWS];
        private final int[] steps = new int[TAPE];
        private int stepCount = 0;
        private final long[] stack = new long[STACK_DEPTH];

        boolean readFrom(Tape tape) {
            count = 0;
            stepCount = 0;
            boolean fine = true;
            for (int parts = 0; fine && tape.kind != TOKEN_END && parts <= TAPE; parts++) {
                fine = readLaw(tape);
            }
            return fine;
        }

        private boolean readLaw(Tape tape) {
            if (!tape.stands(tape.isName())) {
                return false;
            }
            if (count >= MOST_LAWS) {
                return tape.wrong(LAW_FAULT_MANY);
            }
            if (isLawName(tape.word)) {
                return tape.wrong(LAW_FAULT_NAME);
            }
            int law = count;
            count++;
            names[law] = tape.word;
            starts[law] = stepCount;
            tape.advance();
            if (!tape.takeSign(':') || !readSum(tape, 0)) {
                return false;
            }
            ends[law] = stepCount;
            return readBounds(tape, law) && tape.takeSign(';');
        }

        private boolean isLawName(long name) {
            for (int l = 0; l < count; l++) {
                if (names[l] == name) {
                    return true;
                }
            }
            return false;
        }

        private boolean readBounds(Tape tape, int law) {
            if (!tape.takeKey(WORD_OVER) || !tape.takeNumber(1, MOST_OVER, LAW_FAULT_NUMBER)) {
                return false;
            }
            overs[law] = tape.taken;
            if (!tape.takeKey(WORD_BELOW) || !tape.takeNumber(0, MOST_PORTIONS, LAW_FAULT_NUMBER)) {
                return false;
            }
            belows[law] = tape.taken;
            return true;
        }

        private boolean readSum(Tape tape, int brackets) {
            boolean fine = readItem(tape, brackets);
            for (int i = 0; fine && (tape.isSign('+') || tape.isSign('-')) && i < TAPE; i++) {
                int step = tape.isSign('+') ? STEP_PLUS : STEP_MINUS;
                tape.advance();
                fine = readItem(tape, brackets);
                addStep(step);
            }
            return fine;
        }

        private boolean readItem(Tape tape, int brackets) {
            boolean fine = readAtom(tape, brackets);
            for (int i = 0; fine && tape.isSign('*') && i < TAPE; i++) {
                tape.advance();
                fine = readAtom(tape, brackets);
                addStep(STEP_TIMES);
            }
            return fine;
        }

        private boolean readAtom(Tape tape, int brackets) {
            if (tape.isSign('(')) {
                if (brackets >= MOST_BRACKETS) {
                    return tape.wrong(LAW_FAULT_BRACKETS);
                }
                tape.advance();
                return readSum(tape, brackets + 1) && tape.takeSign(')');
            }
            boolean number = tape.kind == TOKEN_NUMBER;
            if (!tape.stands(number || (tape.key >= 0 && tape.key < VARIABLES))) {
                return false;
            }
            addStep(number ? tape.number : STEP_VARIABLE + tape.key);
            tape.advance();
            return true;
        }

        private void addStep(int step) {
            // Each step has a token of its own on the tape, so there is room for all of them.
            if (stepCount < TAPE) {
                steps[stepCount] = step;
                stepCount++;
            }
        }

        boolean isBroken(int law, int hour, int[] ups, int[] warmths) {
            int first = hour - overs[law] + 1;
            if (first < 0) {
                return false;
            }
            long together = 0;
            for (int h = first; h <= hour; h++) {
                together += sumOf(law, h, ups, warmths);
            }
            return isTooMuch(law, together);
        }

        int firstBroken(int law, int[] ups, int[] warmths) {
            long together = 0;
            for (int hour = 0; hour < HOURS; hour++) {
                together += sumOf(law, hour, ups, warmths);
                int first = hour - overs[law] + 1;
                if (first > 0) {
                    together -= sumOf(law, first - 1, ups, warmths);
                }
                if (first >= 0 && isTooMuch(law, together)) {
                    return hour;
                }
            }
            return NONE;
        }

        private boolean isTooMuch(int law, long together) {
            return together >= (long) belows[law] * overs[law];
        }

        private long sumOf(int law, int hour, int[] ups, int[] warmths) {
            int top = 0;
            for (int i = starts[law]; i < ends[law]; i++) {
                int step = steps[i];
                if (step < STEP_PLUS) {
                    if (top < STACK_DEPTH) {
                        stack[top] = step < STEP_VARIABLE ? step : variable(step - STEP_VARIABLE, hour, ups, warmths);
                        top++;
                    }
                } else if (top >= 2) {
                    top--;
                    stack[top - 1] = joinSides(step, stack[top - 1], stack[top]);
                }
            }
            return top > 0 ? stack[0] : 0;
        }

        private static long variable(int which, int hour, int[] ups, int[] warmths) {
            if (which < SIZES) {
                return ups[hour * SIZES + which];
            }
            return which == VARIABLE_WARMTH ? warmths[hour] : hour;
        }

        private static long joinSides(int step, long left, long right) {
            if (step == STEP_PLUS) {
                return left + right;
            }
            return step == STEP_MINUS ? left - right : left * right;
        }
    }

    /** What was told: rows, events and warmth; and, gathered from them, what counts as of an hour. */
    private static final class Book {
        private int rows = 0;
        private final int[] rowCells = new int[MOST_ROWS];
        private final int[] rowPortions = new int[MOST_ROWS];
        private final int[] rowKnown = new int[MOST_ROWS];
        private int events = 0;
        private final int[] eventSorts = new int[MOST_EVENTS];
        private final int[] eventCleaners = new int[MOST_EVENTS];
        private final int[] eventHours = new int[MOST_EVENTS];
        /** The hundredths of a hole, the last hour of being off. */
        private final int[] eventMores = new int[MOST_EVENTS];
        private final int[] eventKnown = new int[MOST_EVENTS];
        private int latestKnown = 0;
        private int asOf = LAST_KNOWN;
        final int[] warmths = new int[HOURS];
        boolean stale = true;
        final int[] dust = new int[MOST_WORKS * HOURS * SIZES];
        /** A bit for each hour. */
        private final long[] knocked = new long[MOST_CLEANERS];
        private final long[] offs = new long[MOST_CLEANERS];
        /** Hundredths of all holes by an hour together. */
        private final int[] holes = new int[MOST_CLEANERS * HOURS];

        static int cell(int works, int hour, int size) {
            return (works * HOURS + hour) * SIZES + size;
        }

        void forget() {
            rows = 0;
            events = 0;
            stale = true;
        }

        int rowStatus(int known) {
            return addStatus(rows >= MOST_ROWS, known);
        }

        int eventStatus(int known) {
            return addStatus(events >= MOST_EVENTS, known);
        }

        private int addStatus(boolean full, int known) {
            if (full) {
                return STATUS_TOO_MANY;
            }
            return known < latestKnown ? STATUS_GONE : STATUS_FINE;
        }

        void addRow(int cell, int portions, int known) {
            if (rows < MOST_ROWS) {
                rowCells[rows] = cell;
                rowPortions[rows] = portions;
                rowKnown[rows] = known;
                rows++;
            }
            latestKnown = known;
            stale = true;
        }

        void addEvent(int sort, int c, int hour, int more, int known) {
            if (events < MOST_EVENTS) {
                eventSorts[events] = sort;
                eventCleaners[events] = c;
                eventHours[events] = hour;
                eventMores[events] = more;
                eventKnown[events] = known;
                events++;
            }
            latestKnown = known;
            stale = true;
        }

        void setWarmth(int hour, int much) {
            warmths[hour] = much;
            stale = true;
        }

        void setAsOf(int hour) {
            asOf = hour;
            stale = true;
        }

        void gather() {
            Arrays.fill(dust, 0);
            Arrays.fill(knocked, 0L);
            Arrays.fill(offs, 0L);
            Arrays.fill(holes, 0);
            for (int r = 0; r < rows; r++) {
                if (rowKnown[r] <= asOf) {
                    dust[rowCells[r]] = rowPortions[r];
                }
            }
            for (int e = 0; e < events; e++) {
                if (eventKnown[e] <= asOf) {
                    gatherEvent(eventSorts[e], eventCleaners[e], eventHours[e], eventMores[e]);
                }
            }
            stale = false;
        }

        private void gatherEvent(int sort, int c, int hour, int more) {
            if (sort == EVENT_KNOCK) {
                knocked[c] |= 1L << hour;
            } else if (sort == EVENT_OFF) {
                for (int h = hour; h <= more && h < HOURS; h++) {
                    offs[c] |= 1L << h;
                }
            } else {
                for (int h = hour; h < HOURS; h++) {
                    holes[c * HOURS + h] += more;
                }
            }
        }

        boolean isKnocked(int c, int hour) {
            return (knocked[c] >>> hour & 1L) != 0;
        }

        boolean isOff(int c, int hour) {
            return (offs[c] >>> hour & 1L) != 0;
        }

        int holesBy(int c, int hour) {
            return holes[c * HOURS + hour];
        }
    }

    /** Parts a number by weights: rounded down, the rest by one to the greatest rests, of like ones the first. */
    private static final class Parter {
        final long[] weights = new long[MOST_WAYS];
        final int[] parts = new int[MOST_WAYS];
        private final long[] rests = new long[MOST_WAYS];

        /** The first many weights are the whole together. */
        void share(long amount, int many, long whole) {
            if (whole <= 0 || many > MOST_WAYS) {
                return;
            }
            long left = amount;
            for (int i = 0; i < many; i++) {
                long product = amount * weights[i];
                parts[i] = (int) (product / whole);
                rests[i] = product % whole;
                left -= parts[i];
            }
            for (int k = 0; k < many && left > 0; k++) {
                int greatest = 0;
                for (int i = 1; i < many; i++) {
                    if (rests[i] > rests[greatest]) {
                        greatest = i;
                    }
                }
                parts[greatest]++;
                // Below all rests: it gets no second one.
                rests[greatest] = -1;
                left--;
            }
        }
    }

    /** A plant stepped hour by hour, with what is only supposed of one cleaner beside what was told. */
    private static final class Flow {
        int next = 0;
        final int[] ups = new int[HOURS * SIZES];
        private final int[] comes = new int[MOST_CLEANERS * SIZES];
        private final int[] held = new int[MOST_CLEANERS * SIZES];
        private final int[] flying = new int[MOST_CLEANERS * SIZES];
        private final int[] layers = new int[MOST_CLEANERS * SIZES];
        private final int[] ashes = new int[MOST_CLEANERS * SIZES];
        private final int[] leftOver = new int[MOST_CLEANERS * SIZES];
        private final Parter parter = new Parter();
        private int supposed = NONE;
        private long supposedKnocks = 0;
        private int supposedHole = 0;

        void restart() {
            next = 0;
            Arrays.fill(layers, 0);
            Arrays.fill(ashes, 0);
            Arrays.fill(leftOver, 0);
        }

        /** Ash has no bearing on what goes up, so it is left behind. */
        void goOnFrom(Flow other) {
            next = other.next;
            System.arraycopy(other.layers, 0, layers, 0, layers.length);
            System.arraycopy(other.leftOver, 0, leftOver, 0, leftOver.length);
        }

        /** A hole from the next hour on. */
        void supposeHole(int c, int much) {
            supposed = c;
            supposedKnocks = 0;
            supposedHole = much;
        }

        void supposeKnocks(int c, long hours) {
            supposed = c;
            supposedKnocks = hours;
            supposedHole = 0;
        }

        void step(Plant plant, Book book) {
            if (next >= HOURS) {
                return;
            }
            int hour = next;
            next++;
            Arrays.fill(comes, 0);
            Arrays.fill(flying, 0);
            Arrays.fill(ups, hour * SIZES, (hour + 1) * SIZES, 0);
            bringDust(plant, book, hour);
            for (int c = 0; c < plant.cleaners; c++) {
                if (isKnocked(book, c, hour)) {
                    shake(plant, c);
                }
                clean(plant, book, c, hour);
                for (int size = 0; size < SIZES; size++) {
                    pass(plant, c, size, hour);
                }
            }
        }

        private void bringDust(Plant plant, Book book, int hour) {
            for (int w = 0; w < plant.works; w++) {
                for (int size = 0; size < SIZES; size++) {
                    comes[plant.worksAt[w] * SIZES + size] += book.dust[Book.cell(w, hour, size)];
                }
            }
        }

        private boolean isKnocked(Book book, int c, int hour) {
            return book.isKnocked(c, hour) || (c == supposed && (supposedKnocks >>> hour & 1L) != 0);
        }

        private void shake(Plant plant, int c) {
            for (int i = c * SIZES; i < (c + 1) * SIZES; i++) {
                flying[i] = layers[i] * plant.flies[c] / WHOLE;
                ashes[i] += layers[i] - flying[i];
                layers[i] = 0;
            }
        }

        /** How much it holds is settled by its layer as it is ahead of all that this hour brings. */
        private void clean(Plant plant, Book book, int c, int hour) {
            int sort = plant.sorts[c];
            int layer = sumOf(layers, c * SIZES);
            boolean full = layer >= plant.limits[c];
            boolean fails = book.isOff(c, hour) || (sort == CLOTH && full)
                || (sort == SPRAY && book.warmths[hour] >= plant.limits[c]);
            boolean halved = sort == PLATES && full;
            int less = lessBy(book, c, hour);
            boolean keeps = plant.keepsLayer(c);
            for (int i = c * SIZES; i < (c + 1) * SIZES; i++) {
                int hundredths = halved ? plant.holds[i] / 2 : Math.max(0, plant.holds[i] - less);
                hold(i, fails ? 0 : hundredths, keeps);
            }
        }

        private int lessBy(Book book, int c, int hour) {
            int less = book.holesBy(c, hour);
            return c == supposed ? less + supposedHole : less;
        }

        private void hold(int i, int hundredths, boolean keeps) {
            int product = comes[i] * hundredths + leftOver[i];
            held[i] = product / WHOLE;
            leftOver[i] = product % WHOLE;
            if (keeps) {
                layers[i] += held[i];
            } else {
                ashes[i] += held[i];
            }
        }

        private void pass(Plant plant, int c, int size, int hour) {
            int i = c * SIZES + size;
            int amount = comes[i] - held[i] + flying[i];
            if (amount == 0) {
                return;
            }
            int first = c * MOST_WAYS;
            int ways = plant.wayCounts[c];
            for (int w = 0; w < ways; w++) {
                parter.weights[w] = plant.wayShares[first + w];
            }
            parter.share(amount, ways, WHOLE);
            for (int w = 0; w < ways; w++) {
                int goal = plant.wayGoals[first + w];
                if (goal == NONE) {
                    ups[hour * SIZES + size] += parter.parts[w];
                } else {
                    comes[goal * SIZES + size] += parter.parts[w];
                }
            }
        }

        int upOf(int hour, int size) {
            return size == NONE ? sumOf(ups, hour * SIZES) : ups[hour * SIZES + size];
        }

        int amountOf(int c, int size, int what) {
            int[] amounts = amountsOf(what);
            return size == NONE ? sumOf(amounts, c * SIZES) : amounts[c * SIZES + size];
        }

        private int[] amountsOf(int what) {
            switch (what) {
                case 0:
                    return comes;
                case 1:
                    return held;
                case 2:
                    return flying;
                case 3:
                    return layers;
                default:
                    return ashes;
            }
        }

        private static int sumOf(int[] amounts, int first) {
            int sum = 0;
            for (int size = 0; size < SIZES; size++) {
                sum += amounts[first + size];
            }
            return sum;
        }
    }

    /** Looks for holes that explain what was up, and for the best hours to knock. */
    private static final class Hunt {
        private final Flow trial = new Flow();
        private final long[] upRow = new long[MOST_TORN_HOURS];
        private int firstHour = 0;
        private int lastHour = NONE;
        private int span = 0;
        private int fits = 0;
        int cloth = NONE;
        int holeHour = NONE;
        int holeMuch = NONE;
        private final int[] knockHours = new int[MOST_KNOCK_HOURS];
        private int knockMany = 0;
        int bestSet = NONE;

        void takeUps(Trays trays, int tray, int from, int many, int mostApart) {
            for (int i = 0; i < many; i++) {
                upRow[i] = trays.get(tray, i);
            }
            firstHour = from;
            lastHour = from + many - 1;
            span = mostApart;
        }

        int countHoles(Flow base, Plant plant, Book book) {
            fits = 0;
            cloth = NONE;
            base.restart();
            boolean agrees = true;
            // Ahead of a hole all is as without it: once that is off, no later hole can fit.
            for (int hour = 0; agrees && hour <= lastHour; hour++) {
                for (int c = 0; c < plant.cleaners; c++) {
                    if (plant.sorts[c] == CLOTH) {
                        tryHoles(base, plant, book, c, hour);
                    }
                }
                base.step(plant, book);
                agrees = isNear(base, hour);
            }
            return fits;
        }

        private void tryHoles(Flow base, Plant plant, Book book, int c, int hour) {
            for (int much = HOLE_STEP; much <= WHOLE; much += HOLE_STEP) {
                trial.goOnFrom(base);
                trial.supposeHole(c, much);
                if (explains(plant, book, hour)) {
                    fits++;
                    // Hours go up, so of one cloth the hole found first is its first.
                    if (cloth == NONE || c < cloth) {
                        cloth = c;
                        holeHour = hour;
                        holeMuch = much;
                    }
                }
            }
        }

        private boolean explains(Plant plant, Book book, int from) {
            boolean agrees = true;
            for (int hour = from; agrees && hour <= lastHour; hour++) {
                trial.step(plant, book);
                agrees = isNear(trial, hour);
            }
            return agrees;
        }

        private boolean isNear(Flow flow, int hour) {
            if (hour < firstHour) {
                return true;
            }
            long was = upRow[hour - firstHour];
            long would = flow.upOf(hour, NONE);
            return was >= would - span && was <= would + span;
        }

        void takeHours(Trays trays, int tray, int many) {
            for (int i = 0; i < many; i++) {
                knockHours[i] = (int) trays.get(tray, i);
            }
            knockMany = many;
        }

        int leastUp(Plant plant, Book book, int c, int most, int to) {
            int least = NONE;
            int fewest = 0;
            for (int set = 0; set < 1 << knockMany; set++) {
                int many = Integer.bitCount(set);
                if (many <= most) {
                    int together = upTogether(plant, book, c, set, to);
                    if (least == NONE || together < least || (together == least && many < fewest)) {
                        least = together;
                        fewest = many;
                        bestSet = set;
                    }
                }
            }
            return least;
        }

        private int upTogether(Plant plant, Book book, int c, int set, int to) {
            long hours = 0;
            for (int i = 0; i < knockMany; i++) {
                if ((set >> i & 1) != 0) {
                    hours |= 1L << knockHours[i];
                }
            }
            trial.restart();
            trial.supposeKnocks(c, hours);
            int together = 0;
            for (int hour = 0; hour <= to; hour++) {
                trial.step(plant, book);
                together += trial.upOf(hour, NONE);
            }
            return together;
        }
    }

    /** What is reckoned on paper: the cheapest row of cleaners, air among flues, lines of a gauge. */
    private static final class Paper {
        private final int[] cleaners = new int[MOST_PAPER_CLEANERS * PAPER_NUMBERS];
        private final int[] portions = new int[SIZES];
        private final int[] passing = new int[SIZES];
        private final int[] tried = new int[MOST_IN_ROW];
        private final int[] best = new int[MOST_IN_ROW];
        final int[] rowCleaners = new int[MOST_IN_ROW];
        int rowLength = 0;
        private final int[] hindrances = new int[MOST_FLUES];
        final int[] flueParts = new int[MOST_FLUES];
        /** Of each slope the starts that fit; none, if the least is above the most. */
        private final int[] leastStarts = new int[LINE_SLOPES];
        private final int[] mostStarts = new int[LINE_SLOPES];
        private boolean gauged = false;

        boolean takeCleaners(Trays trays, int tray, int many) {
            for (int i = 0; i < many * PAPER_NUMBERS; i++) {
                int most = i % PAPER_NUMBERS == SIZES ? MOST_COST : WHOLE;
                long v = trays.get(tray, i);
                if (v < 0 || v > most) {
                    return false;
                }
                cleaners[i] = (int) v;
            }
            return true;
        }

        boolean takePortions(Trays trays, int tray) {
            if (!trays.areWithin(tray, SIZES, MOST_PORTIONS)) {
                return false;
            }
            for (int size = 0; size < SIZES; size++) {
                portions[size] = (int) trays.get(tray, size);
            }
            return true;
        }

        /** Rows are tried from the shortest on, of one length in their order: so only a lesser cost is better. */
        int cheapest(int many, int most) {
            int least = NONE;
            int leastLength = 0;
            int rows = 1;
            for (int length = 0; length <= MOST_IN_ROW && length <= many; length++) {
                for (int row = 0; row < rows; row++) {
                    if (spellRow(row, length, many)) {
                        int cost = costOf(length);
                        if ((least == NONE || cost < least) && passesOf(length) <= most) {
                            least = cost;
                            leastLength = length;
                            System.arraycopy(tried, 0, best, 0, length);
                        }
                    }
                }
                rows *= many;
            }
            if (least != NONE) {
                rowLength = leastLength;
                System.arraycopy(best, 0, rowCleaners, 0, leastLength);
            }
            return least;
        }

        /** A row's cleaners are the digits of its number; false if one comes twice. */
        private boolean spellRow(int row, int length, int many) {
            if (many <= 0) {
                return false;
            }
            int rest = row;
            int used = 0;
            for (int i = length - 1; i >= 0; i--) {
                int c = rest % many;
                rest /= many;
                if ((used >> c & 1) != 0) {
                    return false;
                }
                used |= 1 << c;
                tried[i] = c;
            }
            return true;
        }

        private int costOf(int length) {
            int cost = 0;
            for (int i = 0; i < length; i++) {
                cost += cleaners[tried[i] * PAPER_NUMBERS + SIZES];
            }
            return cost;
        }

        private int passesOf(int length) {
            int together = 0;
            for (int size = 0; size < SIZES; size++) {
                passing[size] = portions[size];
                for (int i = 0; i < length; i++) {
                    passing[size] -= passing[size] * cleaners[tried[i] * PAPER_NUMBERS + size] / WHOLE;
                }
                together += passing[size];
            }
            return together;
        }

        boolean takeHindrances(Trays trays, int tray, int many) {
            for (int i = 0; i < many; i++) {
                long v = trays.get(tray, i);
                if (v < 1 || v > MOST_HINDRANCE) {
                    return false;
                }
                hindrances[i] = (int) v;
            }
            return true;
        }

        void partAir(int many, int parts) {
            Arrays.fill(flueParts, 0);
            for (int part = 0; part < parts; part++) {
                int least = 0;
                for (int flue = 1; flue < many; flue++) {
                    if (hindranceWithOneMore(flue) < hindranceWithOneMore(least)) {
                        least = flue;
                    }
                }
                flueParts[least]++;
            }
        }

        private int hindranceWithOneMore(int flue) {
            int parts = flueParts[flue] + 1;
            return hindrances[flue] * parts * parts;
        }

        void clearLines() {
            gauged = true;
            Arrays.fill(leastStarts, 0);
            Arrays.fill(mostStarts, LINE_MOST_START);
        }

        void narrowLines(int light, int drawn, int span) {
            for (int slope = 0; slope < LINE_SLOPES; slope++) {
                int start = drawn - slope * light;
                leastStarts[slope] = Math.max(leastStarts[slope], start - span);
                mostStarts[slope] = Math.min(mostStarts[slope], start + span);
            }
        }

        private boolean fits(int slope) {
            return gauged && leastStarts[slope] <= mostStarts[slope];
        }

        int countLines() {
            int count = 0;
            for (int slope = 0; slope < LINE_SLOPES; slope++) {
                if (fits(slope)) {
                    count += mostStarts[slope] - leastStarts[slope] + 1;
                }
            }
            return count;
        }

        int leastTold(int light) {
            int least = NONE;
            for (int slope = 0; slope < LINE_SLOPES; slope++) {
                int told = slope * light + leastStarts[slope];
                if (fits(slope) && (least == NONE || told < least)) {
                    least = told;
                }
            }
            return least;
        }

        int mostTold(int light) {
            int most = NONE;
            for (int slope = 0; slope < LINE_SLOPES; slope++) {
                int told = slope * light + mostStarts[slope];
                if (fits(slope) && told > most) {
                    most = told;
                }
            }
            return most;
        }
    }
}
