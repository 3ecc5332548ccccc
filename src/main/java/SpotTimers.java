import java.util.ArrayList;
import java.util.Arrays;

/** Two transits timed: the stations, clocks, readings, letters, rules and sums of the document. */
public final class SpotTimers {
    public static final int NONE = -1, BAD = -2, STATE = -3, FULL = -4;
    public static final int NO = -1000000000;
    public static final long FAR = Long.MIN_VALUE;

    private static final int NOTHING = -11, CAST = -12, PLACE = -13, SIZE = -14;
    private static final int NO_SUCH = -5;
    private static final int NO_LEVER = -100;
    private static final int FAULT_BASE = -10;

    private static final int LAST_DAY = 9999, LAST_TIME = 999999;
    private static final int LONGITUDE_MOST = 43200, LONGITUDE_UNTOLD = 99999, HEIGHT_MOST = 4000;
    private static final int TRUE_TIME_MOST = 2000000;
    private static final int STATIONS = 11, CLOCKS = 12, READINGS = 90, LETTERS = 60, RULES = 12, PLACES = 9;
    private static final int HANDS = 6, HOUSES = 3, EDGE_NUMBERS = 4, TAPES = 6;
    private static final int DAYS_AT_ONCE = 400;
    private static final int LEVER_MOST = 99, DISTANCE_MOST = 99999;
    private static final int MODULUS = 1000000007;

    private static final int STAR = 1, MOON = 2, EDGE = 3, BLUR = 4, PLATE = 5, COPIED = 6, WITHDRAWN = 7;
    private static final int KINDS = 8;
    /** The KIND above each KIND; behind READING, the topmost, there is none. */
    private static final int[] ABOVE = {-1, 0, 0, 0, 3, 0, 0, 0};

    private static final int TIMES = 0, WEIGHS = 1, TELLS = 2;
    private static final int ACTS = 3;
    /** A row of KINDS for each act: the body that a KIND itself has, or 0. */
    private static final int[] BODIES = {
        10, 20, 0, 0, 50, 0, 70, 0,
        11, 0, 30, 0, 0, 60, 0, 0,
        12, 0, 0, 40, 51, 0, 0, 80};
    private static final int TRACE_KEPT = 20, ACT_DEPTH = 40;

    private static final int TEXT_MOST = 140, CLAUSES_MOST = 10, NESTED_MOST = 5;
    private static final int ALL_EDGES = 30, BLUR_FIRST = 0, BLUR_MIDDLE = 1, BLUR_LAST = 2, REST_UNTOLD = 9999;

    private static final int BLUNDERS_MOST = 12, TOO_WELL_MOST = 8, SPAN_MOST = 99;
    private static final int GO_MOST = 5, GO_COSTS = 400, CHANCE_MOST = 100, COST_MOST = 99;

    private static final int BYTES = 0, SHORTS = 1, REALS = 3;
    private static final int TAPE_MOST = 60, EIGHTHS_MOST = 8000000, NO_NUMBER = 999999999;
    private static final int BOOK_MOST = 40;
    private static final int BOOK_ALL = 0, BOOK_NOTHING = 1, BOOK_PLACE = 2, BOOK_NO_TIME = 3, BOOK_NO_ROOM = 4;

    private final ArrayList<Station> stations = new ArrayList<>();
    private final ArrayList<Clock> clocks = new ArrayList<>();
    private final ArrayList<Reading> readings = new ArrayList<>();
    private final ArrayList<Letter> letters = new ArrayList<>();
    private final ArrayList<Rule> rules = new ArrayList<>();
    private final ArrayList<Place> places = new ArrayList<>();
    private final Tape[] tapes = new Tape[TAPES];
    private final int[] tables = new int[EDGE_NUMBERS + 1];
    private final RuleReader reader = new RuleReader();
    private final Rule unruled = new Rule(-1, -1, 0, 0);
    private final Tally tally = new Tally();
    private final Acts acts = new Acts();
    private int today = 0;
    private int order = 0;
    private int bookEnd = STATE;

    public SpotTimers() {
        for (int i = 0; i < tapes.length; i++) {
            tapes[i] = new Tape();
        }
    }

    // ---- stations, clocks, readings

    public int pass(int n) {
        if (!within(n, 1, DAYS_AT_ONCE) || today + n > LAST_DAY) {
            return BAD;
        }
        today += n;
        return today;
    }

    public int station(int longitude, int height) {
        boolean told = longitude != LONGITUDE_UNTOLD;
        if (told && !within(longitude, -LONGITUDE_MOST, LONGITUDE_MOST)) {
            return BAD;
        }
        if (!within(height, 0, HEIGHT_MOST)) {
            return BAD;
        }
        if (stations.size() >= STATIONS) {
            return FULL;
        }
        stations.add(new Station(stations.size(), told, longitude, height));
        return stations.size() - 1;
    }

    public int clock(int station) {
        Station of = stationAt(station);
        if (of == null) {
            return NONE;
        }
        if (clocks.size() >= CLOCKS) {
            return FULL;
        }
        clocks.add(new Clock(clocks.size(), of));
        return clocks.size() - 1;
    }

    public int stop(int clock, int time) {
        Clock stopped = clockAt(clock);
        if (stopped == null) {
            return NONE;
        }
        if (!isTime(time)) {
            return BAD;
        }
        if (stopped.hasStopped()) {
            return STATE;
        }
        stopped.stoppedAt = time;
        keepByStars(stopped);
        return 1;
    }

    public int reading(int kind, int clock, int hand, int shows, int more) {
        Clock of = clockAt(clock);
        if (of == null || !isHand(hand)) {
            return NONE;
        }
        if (!isTime(shows) || !fitsKind(kind, shows, more)) {
            return BAD;
        }
        if (readings.size() >= READINGS) {
            return FULL;
        }
        Reading told = tell(kind, of, hand, shows, null);
        if (kind == EDGE) {
            told.edge = more;
        } else if (kind == PLATE) {
            told.edge = more / 1000;
            told.more = more % 1000 - 500;
        } else {
            told.more = more;
            told.edge = kind == BLUR ? 1 : 0;
        }
        if (kind == STAR || kind == MOON) {
            keepByStars(of);
        }
        return told.number;
    }

    public int number(int reading, int number) {
        Reading blur = readingAt(reading);
        if (blur == null) {
            return NONE;
        }
        if (blur.kindNow() != BLUR) {
            return CAST;
        }
        if (!isEdgeNumber(number)) {
            return BAD;
        }
        int had = blur.edge;
        blur.edge = number;
        return had;
    }

    public int copied(int source, int shows) {
        Reading from = readingAt(source);
        if (from == null) {
            return NONE;
        }
        if (!isTime(shows)) {
            return BAD;
        }
        if (from.kind == COPIED) {
            return STATE;
        }
        if (readings.size() >= READINGS) {
            return FULL;
        }
        return tell(COPIED, from.clock, from.hand, shows, from).number;
    }

    public int withdraw(int reading) {
        Reading told = readingAt(reading);
        if (told == null) {
            return NONE;
        }
        if (told.isWithdrawn()) {
            return STATE;
        }
        order++;
        told.withdrawnAt = order;
        if (told.kind == STAR || told.kind == MOON) {
            keepByStars(told.clock);
        }
        return 1;
    }

    public int of(int reading, int what) {
        Reading told = readingAt(reading);
        if (told == null) {
            return NO;
        }
        switch (what) {
            case 0: return told.kindNow();
            case 1: return told.kind;
            case 2: return told.clock.number;
            case 3: return told.hand;
            case 4: return told.shows;
            case 5: return told.origin().edge == 0 ? NONE : told.origin().edge;
            case 6: return told.day;
            case 7: return told.source == null ? NONE : told.source.number;
            default: return NO;
        }
    }

    public int time(int clock, int shows) {
        Clock of = clockAt(clock);
        return of == null || !isTime(shows) ? NO : of.trueTime(shows);
    }

    public int longitude(int station) {
        Station of = stationAt(station);
        return of == null ? NO : of.longitude;
    }

    public int seen(int reading, int end) {
        Reading told = readingAt(reading);
        return told == null ? NO : told.seenAt(end);
    }

    public int like(int reading) {
        Reading copy = readingAt(reading);
        if (copy == null) {
            return NONE;
        }
        if (copy.source == null) {
            return CAST;
        }
        return copy.shows == copy.source.shows ? 1 : 0;
    }

    public int book(int clock, int hand, int first, int tape, int i, int n) {
        Clock of = clockAt(clock);
        Tape row = tapeAt(tape);
        if (of == null || !isHand(hand) || row == null) {
            return NONE;
        }
        if (!isEdgeNumber(first) || !within(n, 1, BOOK_MOST)) {
            return BAD;
        }
        if (row.holdsRow() && row.sort != REALS) {
            return CAST;
        }
        int before = readings.size();
        bookEnd = BOOK_ALL;
        for (int k = 0; k < n && bookEnd == BOOK_ALL; k++) {
            bookEnd = copyOut(of, hand, (first - 1 + k) % EDGE_NUMBERS + 1, row, (long) i + k);
        }
        return readings.size() - before;
    }

    public int ended() {
        return bookEnd;
    }

    // ---- houses

    public int letter(int station, int house, int days) {
        Station from = stationAt(station);
        if (from == null || !isHouse(house)) {
            return NONE;
        }
        if (!within(days, 0, DAYS_AT_ONCE)) {
            return BAD;
        }
        if (letters.size() >= LETTERS) {
            return FULL;
        }
        order++;
        letters.add(new Letter(from.number, house, order, today + days));
        return letters.size();
    }

    public int has(int house, int reading, int day) {
        Reading told = readingAt(reading);
        if (!isHouse(house) || told == null) {
            return NONE;
        }
        if (!isDay(day)) {
            return BAD;
        }
        hear(house, day);
        int heard = tally.heardFrom(told.clock.station.number);
        if (heard <= told.toldAt) {
            return 0;
        }
        return told.isWithdrawn() && heard > told.withdrawnAt ? 2 : 1;
    }

    public int feed(int bytes, int n) {
        if (!within(n, 0, 4)) {
            return BAD;
        }
        if (reader.size + n > TEXT_MOST) {
            return FULL;
        }
        for (int k = n - 1; k >= 0; k--) {
            reader.append(bytes >>> (8 * k));
        }
        return reader.size;
    }

    public int rule(int house, int day) {
        if (!isHouse(house)) {
            return NONE;
        }
        if (!isDay(day)) {
            return BAD;
        }
        if (rules.size() >= RULES) {
            return FULL;
        }
        Rule made = new Rule(rules.size(), house, day, reader.size);
        boolean whole = reader.understands(made);
        reader.size = 0;
        if (!whole) {
            return FAULT_BASE - reader.at;
        }
        rules.add(made);
        return made.number;
    }

    public int ruled(int house, int day, int what) {
        if (!isHouse(house) || !isDay(day)) {
            return NO_SUCH;
        }
        Rule rule = ruleIn(house, day);
        switch (what) {
            case 0: return rule.number;
            case 1: return rule.edges;
            case 2: return rule.blur;
            case 3: return rule.rest;
            case 4: return rule.strikes;
            case 5: return rule.copied ? 1 : 0;
            case 6: return rule.withdrawn ? 1 : 0;
            default: return within(what, 10, 9 + HANDS) ? rule.weightOf(what - 10) : NO_SUCH;
        }
    }

    public int counted(int house, int day, int what) {
        if (!isHouse(house) || what < -1) {
            return NONE;
        }
        if (!isDay(day)) {
            return BAD;
        }
        gather(house, day);
        if (what == -1) {
            return tally.size;
        }
        return what < tally.size ? tally.numbers[what] : NONE;
    }

    public int counts(int house, int day, int reading) {
        int at = gatheredAt(house, day, reading);
        return at < 0 ? NO : tally.values[at];
    }

    // ---- tables, sums

    public int table(int number, int time) {
        if (!isEdgeNumber(number)) {
            return NONE;
        }
        if (!isTime(time)) {
            return BAD;
        }
        int was = tables[number];
        tables[number] = time;
        return was;
    }

    public int lever(int station, int number, int v) {
        Station of = stationAt(station);
        if (of == null || !isEdgeNumber(number) || !within(v, -LEVER_MOST, LEVER_MOST)) {
            return NO_LEVER;
        }
        int was = of.levers[number];
        of.levers[number] = v;
        return was;
    }

    public long sum(int house, int day, int part) {
        if (!within(part, 0, 1) || !gathersSum(house, day)) {
            return FAR;
        }
        long divisor = commonDivisor(Math.abs(tally.above), tally.below);
        if (divisor <= 0) {
            return FAR;
        }
        return part == 0 ? tally.above / divisor : tally.below / divisor;
    }

    public int distance(int house, int day, int what) {
        if (!within(what, 0, 1) || !gathersSum(house, day)) {
            return NO_SUCH;
        }
        int p = tally.bestDistance();
        return what == 0 ? p : (int) (tally.together(p) % MODULUS);
    }

    public int rest(int house, int day, int reading, int p) {
        if (!within(p, 0, DISTANCE_MOST)) {
            return NO;
        }
        int at = gatheredAt(house, day, reading);
        return at < 0 ? NO : tally.restAt(at, p);
    }

    public int blunders(int house, int day) {
        if (!isHouse(house)) {
            return NONE;
        }
        if (!isDay(day)) {
            return BAD;
        }
        gather(house, day);
        return tally.size > BLUNDERS_MOST ? STATE : tally.fewestLeftOut(ruleIn(house, day).rest);
    }

    public int tooWell(int house, int day, int span) {
        if (!isHouse(house)) {
            return NONE;
        }
        if (!isDay(day) || !within(span, 1, SPAN_MOST)) {
            return BAD;
        }
        if (!gathersSum(house, day) || tally.size > TOO_WELL_MOST) {
            return STATE;
        }
        return tally.waysBelow(tally.restsTogether(tally.bestDistance()), span);
    }

    // ---- places, clocks side by side

    public int place(int lever, int chance, int cost) {
        if (!within(lever, -LEVER_MOST, LEVER_MOST) || !within(chance, 0, CHANCE_MOST)
                || !within(cost, 0, COST_MOST)) {
            return BAD;
        }
        if (places.size() >= PLACES) {
            return FULL;
        }
        places.add(new Place(chance * lever * lever, cost));
        return places.size() - 1;
    }

    public int go(int many, int costs, int what) {
        if (!within(what, 0, 2)) {
            return NONE;
        }
        if (!within(many, 1, GO_MOST) || !within(costs, 0, GO_COSTS)) {
            return BAD;
        }
        int set = bestSet(many, costs, -1);
        if (set < 0) {
            return STATE;
        }
        switch (what) {
            case 0: return worthOf(set);
            case 1: return set;
            default: return costOf(set);
        }
    }

    public int lost(int many, int costs, int place) {
        if (!within(place, 0, places.size() - 1)) {
            return NONE;
        }
        if (!within(many, 1, GO_MOST) || !within(costs, 0, GO_COSTS)) {
            return BAD;
        }
        int with = bestSet(many, costs, -1);
        int without = bestSet(many, costs, place);
        return with < 0 || without < 0 ? STATE : worthOf(with) - worthOf(without);
    }

    public long difference(int a, int b) {
        Reading one = readingAt(a);
        Reading other = readingAt(b);
        if (one == null || other == null || !one.isJoinedTo(other)) {
            return FAR;
        }
        int first = one.seenAt(0);
        int second = other.seenAt(0);
        return first == NO || second == NO ? FAR : (long) first - second;
    }

    public int beside(int clock) {
        Clock stopped = clockAt(clock);
        if (stopped == null) {
            return NONE;
        }
        if (!stopped.hasStopped()) {
            return STATE;
        }
        int best = NONE;
        int most = 0;
        for (int i = 0; i < clocks.size(); i++) {
            int twos = i == clock ? 0 : twosJoined(clock, i);
            if (twos > most) {
                most = twos;
                best = i;
            }
        }
        return best;
    }

    // ---- acts, tapes

    public int act(int reading, int act, int x) {
        Reading told = readingAt(reading);
        if (told == null || !within(act, 0, ACTS - 1)) {
            acts.ran = 0;
            return 0;
        }
        return acts.begin(told, act, x);
    }

    public int trace(int i) {
        return within(i, 0, Math.min(acts.ran, TRACE_KEPT) - 1) ? acts.kept[i] : NONE;
    }

    public int taken(int reading, int k) {
        if (!within(k, 0, KINDS - 1)) {
            return BAD;
        }
        Reading told = readingAt(reading);
        if (told == null) {
            return NOTHING;
        }
        int kind = told.kindNow();
        return isUnder(kind, k) ? kind : CAST;
    }

    public int count(int what) {
        switch (what) {
            case 0: return today;
            case 1: return stations.size();
            case 2: return clocks.size();
            case 3: return readings.size();
            case 4: return letters.size();
            case 5: return rules.size();
            case 6: return reader.size;
            case 7: return places.size();
            case 8: return acts.ran;
            default: return BAD;
        }
    }

    public int tape(int tape, int sort, int n) {
        Tape row = tapeAt(tape);
        if (row == null) {
            return NONE;
        }
        if (!within(sort, -1, REALS)) {
            return BAD;
        }
        if (sort >= 0 && n > TAPE_MOST) {
            return BAD;
        }
        if (sort >= 0 && n < 0) {
            return SIZE;
        }
        row.become(sort, n);
        return 1;
    }

    public int item(int tape, int i, int v) {
        Tape row = tapeAt(tape);
        if (row == null) {
            return NONE;
        }
        if (!row.holdsRow()) {
            return NOTHING;
        }
        if (!row.hasPlace(i)) {
            return PLACE;
        }
        if (row.sort == REALS && !within(v, -EIGHTHS_MOST, EIGHTHS_MOST)) {
            return BAD;
        }
        row.put(i, v);
        return 1;
    }

    public int blank(int tape, int i) {
        Tape row = tapeAt(tape);
        if (row == null) {
            return NONE;
        }
        if (!row.holdsRow()) {
            return NOTHING;
        }
        if (row.sort != REALS) {
            return CAST;
        }
        if (!row.hasPlace(i)) {
            return PLACE;
        }
        row.put(i, NO_NUMBER);
        return 1;
    }

    public int read(int tape, int i) {
        Tape row = tapeAt(tape);
        return row == null || !row.hasPlace(i) ? NO : row.items[i];
    }

    public int shift(int tape, int i, int other, int j, int n) {
        Tape from = tapeAt(tape);
        Tape to = tapeAt(other);
        if (from == null || to == null) {
            return NONE;
        }
        if (!from.holdsRow() || !to.holdsRow()) {
            return NOTHING;
        }
        if (from.sort != to.sort) {
            return CAST;
        }
        if (!from.hasPlaces(i, n) || !to.hasPlaces(j, n)) {
            return PLACE;
        }
        System.arraycopy(from.items, i, to.items, j, n);
        return n;
    }

    // ---- what the calls share

    private static boolean within(int v, int least, int most) {
        return v >= least && v <= most;
    }

    private static boolean isTime(int v) {
        return within(v, 0, LAST_TIME);
    }

    private static boolean isDay(int v) {
        return within(v, 0, LAST_DAY);
    }

    private static boolean isHand(int v) {
        return within(v, 0, HANDS - 1);
    }

    private static boolean isHouse(int v) {
        return within(v, 0, HOUSES - 1);
    }

    private static boolean isEdgeNumber(int v) {
        return within(v, 1, EDGE_NUMBERS);
    }

    private static boolean isUnder(int kind, int above) {
        int at = kind;
        for (int i = 0; i < KINDS && at >= 0 && at < KINDS; i++) {
            if (at == above) {
                return true;
            }
            at = ABOVE[at];
        }
        return false;
    }

    private static boolean fitsKind(int kind, int shows, int more) {
        switch (kind) {
            case STAR:
            case MOON:
                return isTime(more);
            case EDGE:
                return isEdgeNumber(more);
            case BLUR:
                return within(more, shows, LAST_TIME);
            case PLATE:
                return more > 0 && isEdgeNumber(more / 1000) && within(more % 1000, 401, 599);
            default:
                return false;
        }
    }

    private static long commonDivisor(long a, long b) {
        long greater = a;
        long lesser = b;
        // Euclid's steps on longs are fewer than a hundred.
        for (int i = 0; i < 200 && lesser != 0; i++) {
            long left = greater % lesser;
            greater = lesser;
            lesser = left;
        }
        return greater;
    }

    private Station stationAt(int i) {
        return within(i, 0, stations.size() - 1) ? stations.get(i) : null;
    }

    private Clock clockAt(int i) {
        return within(i, 0, clocks.size() - 1) ? clocks.get(i) : null;
    }

    private Reading readingAt(int i) {
        return within(i, 0, readings.size() - 1) ? readings.get(i) : null;
    }

    private Tape tapeAt(int i) {
        return within(i, 0, tapes.length - 1) ? tapes[i] : null;
    }

    private Reading tell(int kind, Clock clock, int hand, int shows, Reading source) {
        order++;
        Reading told = new Reading(readings.size(), kind, clock, hand, shows, source);
        told.day = today;
        told.toldAt = order;
        readings.add(told);
        return told;
    }

    /** What the STARS of a CLOCK say is kept ready, as many calls ask for it and few change it. */
    private void keepByStars(Clock clock) {
        clock.stars = 0;
        for (int i = 0; i < readings.size(); i++) {
            Reading star = readings.get(i);
            if (star.kindNow() == STAR && star.clock.number == clock.number && clock.isGoingAt(star.shows)) {
                clock.addStar(star.shows, star.more);
            }
        }
        if (!clock.station.told) {
            clock.station.longitude = longitudeByMoons(clock.station);
        }
    }

    private int longitudeByMoons(Station station) {
        long total = 0;
        int moons = 0;
        for (int i = 0; i < readings.size(); i++) {
            Reading moon = readings.get(i);
            if (moon.kindNow() == MOON && moon.clock.station.number == station.number) {
                int time = moon.clock.trueTime(moon.shows);
                if (time != NO) {
                    total += time - moon.more;
                    moons++;
                }
            }
        }
        return moons == 0 ? NO : (int) Math.floorDiv(total, (long) moons);
    }

    /** One number of a BOOK: BOOK_ALL if it came or was not seen, else why the BOOK ends. */
    private int copyOut(Clock clock, int hand, int edge, Tape row, long place) {
        if (!row.holdsRow()) {
            return BOOK_NOTHING;
        }
        if (place < 0 || place >= row.size) {
            return BOOK_PLACE;
        }
        int eighths = row.items[(int) place];
        if (eighths == NO_NUMBER) {
            return BOOK_ALL;
        }
        int shows = Math.floorDiv(eighths, 8);
        if (!isTime(shows)) {
            return BOOK_NO_TIME;
        }
        if (readings.size() >= READINGS) {
            return BOOK_NO_ROOM;
        }
        tell(EDGE, clock, hand, shows, null).edge = edge;
        return BOOK_ALL;
    }

    /** Of all LETTERS of a STATION that have arrived the latest written one decides what a HOUSE HAS. */
    private void hear(int house, int day) {
        tally.forgetHeard();
        for (int i = 0; i < letters.size(); i++) {
            Letter letter = letters.get(i);
            if (letter.house == house && letter.arrives <= day) {
                tally.hearFrom(letter.station, letter.writtenAt);
            }
        }
    }

    private Rule ruleIn(int house, int day) {
        Rule found = unruled;
        for (int i = 0; i < rules.size(); i++) {
            Rule rule = rules.get(i);
            if (rule.house == house && rule.day <= day && (found.number < 0 || rule.day >= found.day)) {
                found = rule;
            }
        }
        return found;
    }

    private void gather(int house, int day) {
        Rule rule = ruleIn(house, day);
        hear(house, day);
        tally.size = 0;
        for (int i = 0; i < readings.size(); i++) {
            Reading told = readings.get(i);
            if (mayCount(told, rule)) {
                int value = told.valueBy(rule.blur);
                if (value != NO && !rule.strikesOut(told, value)) {
                    tally.add(told, value, rule.weightOf(told.hand), tableOf(told.origin().edge));
                }
            }
        }
    }

    private int tableOf(int edge) {
        return within(edge, 0, tables.length - 1) ? tables[edge] : 0;
    }

    private boolean mayCount(Reading told, Rule rule) {
        int heard = tally.heardFrom(told.clock.station.number);
        if (!told.isOfEdge() || heard <= told.toldAt) {
            return false;
        }
        if (told.isWithdrawn() && heard > told.withdrawnAt && !rule.withdrawn) {
            return false;
        }
        if (told.source != null && (!rule.copied || tally.placeOf(told.source.number) >= 0)) {
            return false;
        }
        return (rule.edges >> told.origin().edge & 1) == 1 && rule.weightOf(told.hand) > 0;
    }

    private int gatheredAt(int house, int day, int reading) {
        if (!isHouse(house) || !isDay(day)) {
            return -1;
        }
        gather(house, day);
        return tally.placeOf(reading);
    }

    private boolean gathersSum(int house, int day) {
        if (!isHouse(house) || !isDay(day)) {
            return false;
        }
        gather(house, day);
        return tally.solves(0);
    }

    private int bestSet(int many, int costs, int without) {
        int best = -1;
        for (int set = 1; set < 1 << places.size(); set++) {
            boolean fits = Integer.bitCount(set) == many && (without < 0 || (set >> without & 1) == 0);
            if (fits && costOf(set) <= costs && (best < 0 || isBetter(set, best))) {
                best = set;
            }
        }
        return best;
    }

    private boolean isBetter(int set, int than) {
        int more = worthOf(set) - worthOf(than);
        return more > 0 || more == 0 && costOf(set) < costOf(than);
    }

    private int worthOf(int set) {
        int worth = 0;
        for (int i = 0; i < places.size(); i++) {
            if ((set >> i & 1) == 1) {
                worth += places.get(i).worth;
            }
        }
        return worth;
    }

    private int costOf(int set) {
        int cost = 0;
        for (int i = 0; i < places.size(); i++) {
            if ((set >> i & 1) == 1) {
                cost += places.get(i).cost;
            }
        }
        return cost;
    }

    private int twosJoined(int clock, int other) {
        int twos = 0;
        for (int i = 0; i < readings.size(); i++) {
            Reading one = readings.get(i);
            for (int j = 0; j < readings.size() && one.clock.number == clock; j++) {
                Reading two = readings.get(j);
                if (two.clock.number == other && one.isJoinedTo(two)) {
                    twos++;
                }
            }
        }
        return twos;
    }

    private static final class Station {
        final int number;
        final boolean told;
        final int heightLag;
        final int[] levers = new int[EDGE_NUMBERS + 1];
        int longitude;

        Station(int number, boolean told, int longitude, int height) {
            this.number = number;
            this.told = told;
            this.longitude = told ? longitude : NO;
            this.heightLag = Math.floorDiv(height, 100);
        }

        int leverOf(int edge) {
            return edge >= 0 && edge < levers.length ? levers[edge] : 0;
        }
    }

    /** A CLOCK with its STARS in the order of what they show, no two of which show the same. */
    private static final class Clock {
        final int number;
        final Station station;
        final int[] starShows = new int[READINGS];
        final int[] starTrue = new int[READINGS];
        int stars = 0;
        int stoppedAt = NO;

        Clock(int number, Station station) {
            this.number = number;
            this.station = station;
        }

        boolean hasStopped() {
            return stoppedAt != NO;
        }

        boolean isGoingAt(int shows) {
            return !hasStopped() || shows <= stoppedAt;
        }

        /** Stars come as they were told, so that the later of two that show the same stays. */
        void addStar(int shows, int trueTime) {
            int at = lastStarUpTo(shows);
            if (at >= 0 && starShows[at] == shows) {
                starTrue[at] = trueTime;
                return;
            }
            if (stars >= READINGS) {
                return;
            }
            for (int i = stars; i > at + 1; i--) {
                starShows[i] = starShows[i - 1];
                starTrue[i] = starTrue[i - 1];
            }
            starShows[at + 1] = shows;
            starTrue[at + 1] = trueTime;
            stars++;
        }

        private int lastStarUpTo(int shows) {
            int at = -1;
            for (int i = 0; i < stars && starShows[i] <= shows; i++) {
                at = i;
            }
            return at;
        }

        int trueTime(int shows) {
            if (stars == 0 || !isGoingAt(shows)) {
                return NO;
            }
            if (stars == 1) {
                return trueTimeOrNone((long) starTrue[0] + shows - starShows[0]);
            }
            int at = Math.max(0, Math.min(lastStarUpTo(shows), stars - 2));
            long shownBetween = starShows[at + 1] - starShows[at];
            if (shownBetween <= 0) {
                return NO;
            }
            long trueBetween = starTrue[at + 1] - starTrue[at];
            long since = shows - starShows[at];
            return trueTimeOrNone(starTrue[at] + Math.floorDiv(since * trueBetween, shownBetween));
        }

        private static int trueTimeOrNone(long time) {
            return time < -TRUE_TIME_MOST || time > TRUE_TIME_MOST ? NO : (int) time;
        }
    }

    /** What was told once; kind is what it was, if it has been withdrawn. */
    private static final class Reading {
        final int number;
        final int kind;
        final Clock clock;
        final int hand;
        final int shows;
        /** Of a COPIED; null for all others. */
        final Reading source;
        /** A STAR's true time, a MOON's time by the table, a BLUR's last time, a PLATE's more or less. */
        int more = 0;
        /** The NUMBER 1 .. 4, 0 without; a COPIED has its SOURCE's. */
        int edge = 0;
        int day = 0;
        /** By the order of calls; 0 for what has not come to be. */
        int toldAt = 0;
        int withdrawnAt = 0;

        Reading(int number, int kind, Clock clock, int hand, int shows, Reading source) {
            this.number = number;
            this.kind = kind;
            this.clock = clock;
            this.hand = hand;
            this.shows = shows;
            this.source = source;
        }

        boolean isWithdrawn() {
            return withdrawnAt > 0;
        }

        int kindNow() {
            return isWithdrawn() ? WITHDRAWN : kind;
        }

        Reading origin() {
            return source == null ? this : source;
        }

        boolean isOfEdge() {
            return isUnder(origin().kind, EDGE) || origin().kind == PLATE;
        }

        int seenAt(int end) {
            if (!isOfEdge() || !within(end, 0, kind == BLUR ? 1 : 0)) {
                return NO;
            }
            int time = clock.trueTime(end == 0 ? shows : more);
            int longitude = clock.station.longitude;
            if (time == NO || longitude == NO) {
                return NO;
            }
            int moreOrLess = origin().kind == PLATE ? origin().more : 0;
            return time - longitude - clock.station.heightLag + moreOrLess;
        }

        /** SEEN as a RULE takes it: a BLUR needs both ends, whichever of them counts. */
        int valueBy(int blur) {
            int first = seenAt(0);
            if (kind != BLUR || first == NO) {
                return first;
            }
            int last = seenAt(1);
            if (last == NO || blur == BLUR_LAST) {
                return last;
            }
            return blur == BLUR_FIRST ? first : Math.floorDiv(first + last, 2);
        }

        boolean isJoinedTo(Reading other) {
            return isUnder(kindNow(), EDGE) && isUnder(other.kindNow(), EDGE)
                && clock.number != other.clock.number
                && clock.station.number == other.clock.station.number
                && hand == other.hand && edge == other.edge;
        }
    }

    private static final class Letter {
        final int station;
        final int house;
        final int writtenAt;
        final int arrives;

        Letter(int station, int house, int writtenAt, int arrives) {
            this.station = station;
            this.house = house;
            this.writtenAt = writtenAt;
            this.arrives = arrives;
        }
    }

    /** A RULE; its strikes stand as steps, a test or a sign behind what it joins. */
    private static final class Rule {
        final int number;
        final int house;
        final int day;
        final int[] weights = {1, 1, 1, 1, 1, 1};
        final int[] signs;
        final int[] values;
        int steps = 0;
        int edges = ALL_EDGES;
        int blur = BLUR_MIDDLE;
        int rest = REST_UNTOLD;
        int strikes = 0;
        boolean copied = false;
        boolean withdrawn = false;

        /** No step takes less than one byte of the text, so its length is room enough. */
        Rule(int number, int house, int day, int length) {
            this.number = number;
            this.house = house;
            this.day = day;
            int room = Math.max(0, length);
            this.signs = new int[room];
            this.values = new int[room];
        }

        int weightOf(int hand) {
            return hand >= 0 && hand < weights.length ? weights[hand] : 0;
        }

        /** Each strike counts: its answer is joined by | to those of the strikes ahead of it. */
        boolean addsStrike() {
            strikes++;
            addStep('|', 0);
            return true;
        }

        void addStep(int sign, int value) {
            if (steps < signs.length && steps < values.length) {
                signs[steps] = sign;
                values[steps] = value;
                steps++;
            }
        }

        /** The answers wait as bits, the latest lowest; 5 nested signs leave fewer than 20 waiting. */
        boolean strikesOut(Reading told, int value) {
            long waiting = 0;
            for (int i = 0; i < steps; i++) {
                switch (signs[i]) {
                    case '!':
                        waiting ^= 1;
                        break;
                    case '&':
                        waiting = waiting >>> 1 & (waiting | ~1L);
                        break;
                    case '|':
                        waiting = waiting >>> 1 | waiting & 1;
                        break;
                    default:
                        waiting = waiting << 1 | (holds(signs[i], values[i], told, value) ? 1 : 0);
                        break;
                }
            }
            return (waiting & 1) == 1;
        }

        private static boolean holds(int sign, int wanted, Reading told, int value) {
            switch (sign) {
                case 'h': return told.hand == wanted;
                case 's': return told.clock.station.number == wanted;
                case 'e': return told.origin().edge == wanted;
                case 'k': return told.kind == wanted;
                case '<': return value < wanted;
                case '>': return value > wanted;
                default: return false;
            }
        }
    }

    /** THE TEXT, read with one byte in view, so that the place where the reading stops is the FAULT. */
    private static final class RuleReader {
        final byte[] text = new byte[TEXT_MOST];
        int size = 0;
        int at = 0;

        void append(int lowest) {
            if (size < text.length) {
                text[size] = (byte) lowest;
                size++;
            }
        }

        boolean understands(Rule rule) {
            at = 0;
            for (int clauses = 1; clauses <= CLAUSES_MOST; clauses++) {
                if (!takesClause(rule)) {
                    return false;
                }
                if (at >= size) {
                    return true;
                }
                if (clauses == CLAUSES_MOST || !takes(";")) {
                    return false;
                }
            }
            return false;
        }

        private int next() {
            return at < size && at < text.length ? text[at] & 255 : -1;
        }

        private boolean takes(String word) {
            for (int i = 0; i < word.length(); i++) {
                if (next() != word.charAt(i)) {
                    return false;
                }
                at++;
            }
            return true;
        }

        /** A number of 1 digit or more, or -1. */
        private int takesDigits(int most) {
            int number = -1;
            for (int i = 0; i < most && next() >= '0' && next() <= '9'; i++) {
                number = Math.max(0, number) * 10 + next() - '0';
                at++;
            }
            return number;
        }

        private boolean takesClause(Rule rule) {
            switch (next()) {
                case 'e': return takes("edges ") && takesEdges(rule);
                case 'b': return takes("blur ") && takesBlur(rule);
                case 'r': return takes("rest ") && takesRest(rule);
                case 's': return takes("strike ") && takesEither(rule, 0) && rule.addsStrike();
                case 'c':
                    rule.copied = takes("copied");
                    return rule.copied;
                case 'w': return takes("w") && takesBehindW(rule);
                default: return false;
            }
        }

        private boolean takesBehindW(Rule rule) {
            if (next() == 'i') {
                rule.withdrawn = takes("ithdrawn");
                return rule.withdrawn;
            }
            return takes("eigh ") && takesWeight(rule);
        }

        private boolean takesEdges(Rule rule) {
            int edges = 0;
            for (int i = 0; i < EDGE_NUMBERS && isEdgeNumber(next() - '0'); i++) {
                int bit = 1 << next() - '0';
                if ((edges & bit) != 0) {
                    return false;
                }
                edges |= bit;
                at++;
            }
            rule.edges = edges;
            return edges != 0;
        }

        private boolean takesBlur(Rule rule) {
            switch (next()) {
                case 'f':
                    rule.blur = BLUR_FIRST;
                    break;
                case 'm':
                    rule.blur = BLUR_MIDDLE;
                    break;
                case 'l':
                    rule.blur = BLUR_LAST;
                    break;
                default:
                    return false;
            }
            at++;
            return true;
        }

        private boolean takesWeight(Rule rule) {
            int hand = next() - '0';
            if (!isHand(hand) || hand >= rule.weights.length) {
                return false;
            }
            at++;
            int weight = takes(" ") ? takesDigits(2) : -1;
            if (weight < 0) {
                return false;
            }
            rule.weights[hand] = weight;
            return true;
        }

        private boolean takesRest(Rule rule) {
            rule.rest = takesDigits(4);
            return rule.rest >= 0;
        }

        /** E, with its Ts in the same loop: & binds closer, so a | waits until the T behind it is whole. */
        private boolean takesEither(Rule rule, int depth) {
            for (int i = 0; i < TEXT_MOST; i++) {
                if (!takesFactor(rule, depth)) {
                    return false;
                }
                for (int j = 0; j < TEXT_MOST && next() == '&'; j++) {
                    at++;
                    if (!takesFactor(rule, depth)) {
                        return false;
                    }
                    rule.addStep('&', 0);
                }
                if (i > 0) {
                    rule.addStep('|', 0);
                }
                if (next() != '|') {
                    return true;
                }
                at++;
            }
            return false;
        }

        private boolean takesFactor(Rule rule, int depth) {
            int sign = next();
            if (sign != '!' && sign != '(') {
                return takesTest(rule);
            }
            if (depth >= NESTED_MOST) {
                return false;
            }
            at++;
            if (sign == '(') {
                return takesEither(rule, depth + 1) && takes(")");
            }
            boolean whole = takesFactor(rule, depth + 1);
            rule.addStep('!', 0);
            return whole;
        }

        private boolean takesTest(Rule rule) {
            int sign = next();
            int digits = 4;
            switch (sign) {
                case 'h':
                case 's':
                case 'e':
                case 'k':
                    at++;
                    if (!takes("=")) {
                        return false;
                    }
                    break;
                case 't':
                    at++;
                    sign = next();
                    digits = 6;
                    if (sign != '<' && sign != '>') {
                        return false;
                    }
                    at++;
                    break;
                default:
                    return false;
            }
            int number = takesDigits(digits);
            rule.addStep(sign, number);
            return number >= 0;
        }
    }

    /** The COUNTED of one HOUSE and DAY, made anew in the same rows by every call that asks. */
    private static final class Tally {
        final int[] numbers = new int[READINGS];
        final int[] values = new int[READINGS];
        final int[] weights = new int[READINGS];
        final int[] levers = new int[READINGS];
        /** SEEN less the table's time. */
        final int[] lates = new int[READINGS];
        final int[] heard = new int[STATIONS];
        final int[] ways = new int[2 * TOO_WELL_MOST + 1];
        int size = 0;
        /** THE SUM, above and below the line, as the latest solves() left it. */
        long above = 0;
        long below = 0;

        void forgetHeard() {
            Arrays.fill(heard, 0);
        }

        void hearFrom(int station, int writtenAt) {
            if (station >= 0 && station < heard.length) {
                heard[station] = Math.max(heard[station], writtenAt);
            }
        }

        int heardFrom(int station) {
            return station >= 0 && station < heard.length ? heard[station] : 0;
        }

        void add(Reading told, int value, int weight, int tableTime) {
            if (size >= READINGS) {
                return;
            }
            numbers[size] = told.number;
            values[size] = value;
            weights[size] = weight;
            levers[size] = told.clock.station.leverOf(told.origin().edge);
            lates[size] = value - tableTime;
            size++;
        }

        int placeOf(int number) {
            for (int i = 0; i < size; i++) {
                if (numbers[i] == number) {
                    return i;
                }
            }
            return -1;
        }

        private static boolean isLeftOut(int leftOut, int i) {
            return i < BLUNDERS_MOST && (leftOut >> i & 1) == 1;
        }

        /** THE SUM without those whose bits are set; false if there is none. */
        boolean solves(int leftOut) {
            above = 0;
            below = 0;
            for (int i = 0; i < size; i++) {
                if (!isLeftOut(leftOut, i)) {
                    long pull = (long) weights[i] * levers[i];
                    above += 100 * pull * lates[i];
                    below += pull * levers[i];
                }
            }
            return below > 0;
        }

        int bestDistance() {
            if (below <= 0) {
                return 0;
            }
            return (int) Math.max(0L, Math.min((long) DISTANCE_MOST, Math.floorDiv(above, below)));
        }

        int restAt(int i, int p) {
            return i >= 0 && i < size ? lates[i] - Math.floorDiv(levers[i] * p, 100) : NO;
        }

        long together(int p) {
            long total = 0;
            for (int i = 0; i < size; i++) {
                long rest = restAt(i, p);
                total += weights[i] * rest * rest;
            }
            return total;
        }

        long restsTogether(int p) {
            long total = 0;
            for (int i = 0; i < size; i++) {
                total += Math.abs(restAt(i, p));
            }
            return total;
        }

        /** Sets come by rising bits, so the first of a number of bits is the least of them. */
        int fewestLeftOut(int rest) {
            if (size > BLUNDERS_MOST) {
                return 0;
            }
            int best = (1 << size) - 1;
            for (int leftOut = 0; leftOut < 1 << size; leftOut++) {
                if (Integer.bitCount(leftOut) < Integer.bitCount(best) && agrees(leftOut, rest)) {
                    best = leftOut;
                }
            }
            return best;
        }

        private boolean agrees(int leftOut, int rest) {
            if (!solves(leftOut)) {
                return true;
            }
            int p = bestDistance();
            for (int i = 0; i < size; i++) {
                if (!isLeftOut(leftOut, i) && Math.abs(restAt(i, p)) > rest) {
                    return false;
                }
            }
            return true;
        }

        /** How many ways of 0, 1 or 2 spans for each come to less than a total. */
        int waysBelow(long total, int span) {
            Arrays.fill(ways, 0);
            ways[0] = 1;
            for (int i = 0; i < size; i++) {
                for (int spans = ways.length - 1; spans >= 1; spans--) {
                    ways[spans] += ways[spans - 1] + (spans >= 2 ? ways[spans - 2] : 0);
                }
            }
            int lesser = 0;
            for (int spans = 0; spans < ways.length; spans++) {
                if ((long) spans * span < total) {
                    lesser += ways[spans];
                }
            }
            return lesser;
        }
    }

    private static final class Place {
        final int worth;
        final int cost;

        Place(int worth, int cost) {
            this.worth = worth;
            this.cost = cost;
        }
    }

    /** The bodies of the KINDS, and THE TRACE of those that ran. */
    private static final class Acts {
        final int[] kept = new int[TRACE_KEPT];
        int ran = 0;
        private int kind = 0;
        private int number = 0;
        private int hand = 0;

        int begin(Reading told, int act, int x) {
            ran = 0;
            kind = told.kindNow();
            number = told.number;
            hand = told.hand;
            return own(act, x, 0);
        }

        private int own(int act, int x, int depth) {
            return run(bodyFrom(act, kind), x, depth);
        }

        private int above(int of, int act, int x, int depth) {
            return run(bodyFrom(act, of >= 0 && of < KINDS ? ABOVE[of] : -1), x, depth);
        }

        private static int bodyFrom(int act, int kind) {
            int at = kind;
            for (int i = 0; i < KINDS && at >= 0 && at < KINDS; i++) {
                int place = act * KINDS + at;
                int body = place >= 0 && place < BODIES.length ? BODIES[place] : 0;
                if (body != 0) {
                    return body;
                }
                at = ABOVE[at];
            }
            return 0;
        }

        private int run(int body, int x, int depth) {
            if (body == 0 || depth > ACT_DEPTH) {
                return 0;
            }
            if (ran < kept.length) {
                kept[ran] = body;
            }
            ran++;
            int deeper = depth + 1;
            switch (body) {
                case 10: return x + number;
                case 11: return own(TIMES, x, deeper) * 2;
                case 12: return own(WEIGHS, x, deeper) - hand;
                case 20: return above(STAR, TIMES, x, deeper) ^ 1;
                case 30: return above(MOON, WEIGHS, x, deeper) + own(TIMES, 2, deeper);
                case 40: return -above(EDGE, TELLS, x, deeper);
                case 50: return above(BLUR, TIMES, x + 3, deeper);
                case 51: return above(BLUR, TELLS, x, deeper) + 5;
                case 60: return above(PLATE, WEIGHS, x, deeper) ^ x;
                case 70: return above(COPIED, TIMES, x, deeper) * 3;
                case 80: return own(TIMES, x, deeper) - above(WITHDRAWN, TELLS, x, deeper);
                default: return 0;
            }
        }
    }

    /** A row of one sort; reals stand as their eighths, one that is no number as NO_NUMBER. */
    private static final class Tape {
        final int[] items = new int[TAPE_MOST];
        int sort = -1;
        int size = 0;

        void become(int sort, int n) {
            this.sort = sort;
            this.size = sort < 0 ? 0 : Math.max(0, Math.min(n, TAPE_MOST));
            Arrays.fill(items, 0);
        }

        boolean holdsRow() {
            return sort >= 0;
        }

        boolean hasPlace(int i) {
            return i >= 0 && i < size;
        }

        boolean hasPlaces(int i, int n) {
            return i >= 0 && n >= 0 && i <= size && n <= size - i;
        }

        void put(int i, int v) {
            if (!hasPlace(i)) {
                return;
            }
            if (sort == BYTES) {
                items[i] = (byte) v;
            } else if (sort == SHORTS) {
                items[i] = (short) v;
            } else {
                items[i] = v;
            }
        }
    }
}
