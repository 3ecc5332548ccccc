import java.math.BigInteger;
import java.util.ArrayList;
import java.util.List;
import java.util.TreeMap;
import java.util.regex.Pattern;

/** The document once more, as plainly as can be: nothing is kept ready, all is worked out from what was told. */
public final class Model {
    private static final int NONE = -1, BAD = -2, STATE = -3, FULL = -4, NOTHING = -11, CAST = -12, PLACE = -13, SIZE = -14;
    private static final int NO = -1000000000;
    private static final long FAR = Long.MIN_VALUE;
    /** The answer of rule() for a text that is not whole; where its FAULT is, RuleTextTest holds. */
    static final int SOME_FAULT = -10;

    private static final class Told {
        int kind, clock, hand, shows, more, edge, day, told, withdrawn = -1, source = -1;
    }

    private int today, calls;
    private final List<int[]> stations = new ArrayList<>();
    private final int[][] levers = new int[11][5];
    private final List<Integer> clocks = new ArrayList<>();
    private final List<Integer> stops = new ArrayList<>();
    private final List<Told> readings = new ArrayList<>();
    private final List<int[]> letters = new ArrayList<>();
    private final List<int[]> ruleDays = new ArrayList<>();
    private final List<String> ruleTexts = new ArrayList<>();
    private final List<int[]> places = new ArrayList<>();
    private final int[] tables = new int[5];
    private final double[][] tapes = new double[6][];
    private final int[] sorts = {-1, -1, -1, -1, -1, -1};
    private final StringBuilder text = new StringBuilder();
    private int ended = STATE;
    private final List<Integer> trace = new ArrayList<>();

    private static boolean in(long v, long least, long most) {
        return least <= v && v <= most;
    }

    private static boolean isTime(int v) {
        return in(v, 0, 999999);
    }

    private boolean isReading(int r) {
        return in(r, 0, readings.size() - 1);
    }

    public int pass(int n) {
        if (!in(n, 1, 400) || today + n > 9999) return BAD;
        return today += n;
    }

    public int station(int longitude, int height) {
        if (!in(longitude, -43200, 43200) && longitude != 99999 || !in(height, 0, 4000)) return BAD;
        if (stations.size() == 11) return FULL;
        stations.add(new int[] {longitude, height});
        return stations.size() - 1;
    }

    public int clock(int station) {
        if (!in(station, 0, stations.size() - 1)) return NONE;
        if (clocks.size() == 12) return FULL;
        clocks.add(station);
        stops.add(Integer.MAX_VALUE);
        return clocks.size() - 1;
    }

    public int stop(int clock, int time) {
        if (!in(clock, 0, clocks.size() - 1)) return NONE;
        if (!isTime(time)) return BAD;
        if (stops.get(clock) != Integer.MAX_VALUE) return STATE;
        stops.set(clock, time);
        return 1;
    }

    private int add(int kind, int clock, int hand, int shows) {
        Told told = new Told();
        told.kind = kind;
        told.clock = clock;
        told.hand = hand;
        told.shows = shows;
        told.day = today;
        told.told = ++calls;
        readings.add(told);
        return readings.size() - 1;
    }

    public int reading(int kind, int clock, int hand, int shows, int more) {
        if (!in(clock, 0, clocks.size() - 1) || !in(hand, 0, 5)) return NONE;
        if (!in(kind, 1, 5) || !isTime(shows)) return BAD;
        int edge = 0;
        int kept = more;
        if (kind <= 2 && !isTime(more)) return BAD;
        if (kind == 3) {
            if (!in(more, 1, 4)) return BAD;
            edge = more;
        }
        if (kind == 4) {
            if (!isTime(more) || more < shows) return BAD;
            edge = 1;
        }
        if (kind == 5) {
            edge = 0;
            for (int number = 1; number <= 4; number++) {
                for (int moreOrLess = -99; moreOrLess <= 99; moreOrLess++) {
                    if (1000 * number + 500 + moreOrLess == more) {
                        edge = number;
                        kept = moreOrLess;
                    }
                }
            }
            if (edge == 0) return BAD;
        }
        if (readings.size() == 90) return FULL;
        int r = add(kind, clock, hand, shows);
        readings.get(r).edge = edge;
        readings.get(r).more = kept;
        return r;
    }

    public int number(int reading, int number) {
        if (!isReading(reading)) return NONE;
        Told told = readings.get(reading);
        if (told.kind != 4 || told.withdrawn >= 0) return CAST;
        if (!in(number, 1, 4)) return BAD;
        int had = told.edge;
        told.edge = number;
        return had;
    }

    public int copied(int source, int shows) {
        if (!isReading(source)) return NONE;
        if (!isTime(shows)) return BAD;
        Told from = readings.get(source);
        if (from.kind == 6) return STATE;
        if (readings.size() == 90) return FULL;
        int r = add(6, from.clock, from.hand, shows);
        readings.get(r).source = source;
        return r;
    }

    public int withdraw(int reading) {
        if (!isReading(reading)) return NONE;
        if (readings.get(reading).withdrawn >= 0) return STATE;
        readings.get(reading).withdrawn = ++calls;
        return 1;
    }

    private int edgeOf(int reading) {
        Told told = readings.get(reading);
        return told.kind == 6 ? readings.get(told.source).edge : told.edge;
    }

    private int kindNow(int reading) {
        return readings.get(reading).withdrawn >= 0 ? 7 : readings.get(reading).kind;
    }

    public int of(int reading, int what) {
        if (!isReading(reading) || !in(what, 0, 7)) return NO;
        Told t = readings.get(reading);
        int edge = edgeOf(reading);
        return new int[] {kindNow(reading), t.kind, t.clock, t.hand, t.shows, edge == 0 ? NONE : edge, t.day, t.source}[what];
    }

    private static BigInteger floor(BigInteger above, BigInteger below) {
        BigInteger[] parts = above.divideAndRemainder(below);
        return parts[1].signum() != 0 && parts[1].signum() != below.signum() ? parts[0].subtract(BigInteger.ONE) : parts[0];
    }

    private static long floor(long above, long below) {
        return floor(BigInteger.valueOf(above), BigInteger.valueOf(below)).longValueExact();
    }

    public int time(int clock, int shows) {
        if (!in(clock, 0, clocks.size() - 1) || !isTime(shows)) return NO;
        if (shows > stops.get(clock)) return NO;
        TreeMap<Integer, Integer> stars = new TreeMap<>();
        for (int r = 0; r < readings.size(); r++) {
            Told t = readings.get(r);
            if (kindNow(r) == 1 && t.clock == clock && t.shows <= stops.get(clock)) stars.put(t.shows, t.more);
        }
        if (stars.isEmpty()) return NO;
        long time;
        if (stars.size() == 1) {
            time = stars.firstEntry().getValue() + shows - stars.firstKey();
        } else {
            Integer one = stars.floorKey(shows);
            if (one == null) one = stars.firstKey();
            if (one.equals(stars.lastKey())) one = stars.lowerKey(one);
            Integer next = stars.higherKey(one);
            time = stars.get(one) + floor((long) (shows - one) * (stars.get(next) - stars.get(one)), next - one);
        }
        return in(time, -2000000, 2000000) ? (int) time : NO;
    }

    public int longitude(int station) {
        if (!in(station, 0, stations.size() - 1)) return NO;
        if (stations.get(station)[0] != 99999) return stations.get(station)[0];
        long sum = 0;
        int n = 0;
        for (int r = 0; r < readings.size(); r++) {
            Told t = readings.get(r);
            if (kindNow(r) == 2 && clocks.get(t.clock) == station && time(t.clock, t.shows) != NO) {
                sum += time(t.clock, t.shows) - t.more;
                n++;
            }
        }
        return n == 0 ? NO : (int) floor(sum, n);
    }

    public int seen(int reading, int end) {
        if (!isReading(reading)) return NO;
        Told t = readings.get(reading);
        Told from = t.kind == 6 ? readings.get(t.source) : t;
        if (!in(from.kind, 3, 5)) return NO;
        if (end != 0 && !(end == 1 && t.kind == 4)) return NO;
        int station = clocks.get(t.clock);
        int time = time(t.clock, end == 1 ? t.more : t.shows);
        int longitude = longitude(station);
        if (time == NO || longitude == NO) return NO;
        return time - longitude - stations.get(station)[1] / 100 + (from.kind == 5 ? from.more : 0);
    }

    public int like(int reading) {
        if (!isReading(reading)) return NONE;
        Told t = readings.get(reading);
        if (t.kind != 6) return CAST;
        return t.shows == readings.get(t.source).shows ? 1 : 0;
    }

    public int book(int clock, int hand, int first, int tape, int i, int n) {
        if (!in(clock, 0, clocks.size() - 1) || !in(hand, 0, 5) || !in(tape, 0, 5)) return NONE;
        if (!in(first, 1, 4) || !in(n, 1, 40)) return BAD;
        if (tapes[tape] != null && sorts[tape] != 3) return CAST;
        int came = 0;
        int number = first;
        ended = 0;
        for (long place = i; place < (long) i + n; place++) {
            if (tapes[tape] == null) {
                ended = 1;
                return came;
            }
            if (!in(place, 0, tapes[tape].length - 1)) {
                ended = 2;
                return came;
            }
            double item = tapes[tape][(int) place];
            if (!Double.isNaN(item)) {
                double time = Math.floor(item);
                if (time < 0 || time > 999999) {
                    ended = 3;
                    return came;
                }
                if (readings.size() == 90) {
                    ended = 4;
                    return came;
                }
                readings.get(add(3, clock, hand, (int) time)).edge = number;
                came++;
            }
            number = number == 4 ? 1 : number + 1;
        }
        return came;
    }

    public int ended() {
        return ended;
    }

    public int letter(int station, int house, int days) {
        if (!in(station, 0, stations.size() - 1) || !in(house, 0, 2)) return NONE;
        if (!in(days, 0, 400)) return BAD;
        if (letters.size() == 60) return FULL;
        letters.add(new int[] {station, house, ++calls, today + days});
        return letters.size();
    }

    public int has(int house, int reading, int day) {
        if (!in(house, 0, 2) || !isReading(reading)) return NONE;
        if (!in(day, 0, 9999)) return BAD;
        Told t = readings.get(reading);
        int has = 0;
        for (int[] l : letters) {
            if (l[0] == clocks.get(t.clock) && l[1] == house && l[3] <= day && l[2] > t.told) {
                has = Math.max(has, t.withdrawn >= 0 && l[2] > t.withdrawn ? 2 : 1);
            }
        }
        return has;
    }

    public int feed(int bytes, int n) {
        if (!in(n, 0, 4)) return BAD;
        if (text.length() + n > 140) return FULL;
        byte[] all = {(byte) (bytes >> 24), (byte) (bytes >> 16), (byte) (bytes >> 8), (byte) bytes};
        for (int i = 4 - n; i < 4; i++) text.append((char) (all[i] & 255));
        return text.length();
    }

    private static final Pattern CLAUSE = Pattern.compile("edges [1-4]{1,4}|blur [fml]|weigh [0-5] [0-9]{1,2}|rest [0-9]{1,4}"
        + "|copied|withdrawn|strike .+");
    private static final Pattern TEST = Pattern.compile("[hsek]=[0-9]{1,4}|t[<>][0-9]{1,6}");

    private static boolean isWhole(String text) {
        String[] clauses = text.split(";", -1);
        if (clauses.length > 10) return false;
        for (String clause : clauses) {
            if (!CLAUSE.matcher(clause).matches()) return false;
            if (clause.startsWith("edges ")) {
                String figures = clause.substring(6);
                if (figures.chars().distinct().count() != figures.length()) return false;
            }
            if (clause.startsWith("strike ") && !isE(clause.substring(7), 5)) return false;
        }
        return true;
    }

    /** The places of a sign outside of all brackets cut a text into parts. */
    private static List<String> parts(String e, char sign) {
        List<String> parts = new ArrayList<>();
        int deep = 0;
        int from = 0;
        for (int i = 0; i < e.length(); i++) {
            if (e.charAt(i) == '(') deep++;
            if (e.charAt(i) == ')') deep--;
            if (deep == 0 && e.charAt(i) == sign) {
                parts.add(e.substring(from, i));
                from = i + 1;
            }
        }
        parts.add(e.substring(from));
        return parts;
    }

    private static boolean isE(String e, int room) {
        for (String t : parts(e, '|')) {
            for (String f : parts(t, '&')) {
                if (!isF(f, room)) return false;
            }
        }
        return true;
    }

    private static boolean isF(String f, int room) {
        if (f.startsWith("!")) return room > 0 && isF(f.substring(1), room - 1);
        if (f.startsWith("(")) return room > 0 && f.endsWith(")") && isE(f.substring(1, f.length() - 1), room - 1);
        return TEST.matcher(f).matches();
    }

    public int rule(int house, int day) {
        if (!in(house, 0, 2)) return NONE;
        if (!in(day, 0, 9999)) return BAD;
        if (ruleDays.size() == 12) return FULL;
        String said = text.toString();
        text.setLength(0);
        if (!isWhole(said)) return SOME_FAULT;
        ruleDays.add(new int[] {house, day});
        ruleTexts.add(said);
        return ruleDays.size() - 1;
    }

    private int theRule(int house, int day) {
        int best = -1;
        for (int d = 0; d <= day; d++) {
            for (int r = 0; r < ruleDays.size(); r++) {
                if (ruleDays.get(r)[0] == house && ruleDays.get(r)[1] == d) best = r;
            }
        }
        return best;
    }

    private String[] clauses(int rule) {
        return rule < 0 ? new String[0] : ruleTexts.get(rule).split(";");
    }

    /** What stands behind the last clause that begins so, or what is so without one. */
    private String last(int rule, String start, String without) {
        String found = without;
        for (String clause : clauses(rule)) {
            if (clause.startsWith(start)) found = clause.substring(start.length());
        }
        return found;
    }

    private List<String> strikes(int rule) {
        List<String> all = new ArrayList<>();
        for (String clause : clauses(rule)) {
            if (clause.startsWith("strike ")) all.add(clause.substring(7));
        }
        return all;
    }

    private int weight(int rule, int hand) {
        return Integer.parseInt(last(rule, "weigh " + hand + " ", "1"));
    }

    public int ruled(int house, int day, int what) {
        if (!in(house, 0, 2) || !in(day, 0, 9999)) return -5;
        int rule = theRule(house, day);
        if (in(what, 10, 15)) return weight(rule, what - 10);
        switch (what) {
            case 0: return rule;
            case 1:
                int bits = 0;
                for (char c : last(rule, "edges ", "1234").toCharArray()) bits += 1 << (c - '0');
                return bits;
            case 2: return "fml".indexOf(last(rule, "blur ", "m"));
            case 3: return Integer.parseInt(last(rule, "rest ", "9999"));
            case 4: return strikes(rule).size();
            case 5: return last(rule, "copied", "no").isEmpty() ? 1 : 0;
            case 6: return last(rule, "withdrawn", "no").isEmpty() ? 1 : 0;
            default: return -5;
        }
    }

    private boolean holdsE(String e, int reading, int value) {
        boolean any = false;
        for (String t : parts(e, '|')) {
            boolean all = true;
            for (String f : parts(t, '&')) all = all & holdsF(f, reading, value);
            any = any | all;
        }
        return any;
    }

    private boolean holdsF(String f, int reading, int value) {
        if (f.startsWith("!")) return !holdsF(f.substring(1), reading, value);
        if (f.startsWith("(")) return holdsE(f.substring(1, f.length() - 1), reading, value);
        int wanted = Integer.parseInt(f.substring(2));
        Told t = readings.get(reading);
        switch (f.substring(0, 2)) {
            case "h=": return t.hand == wanted;
            case "s=": return clocks.get(t.clock) == wanted;
            case "e=": return edgeOf(reading) == wanted;
            case "k=": return t.kind == wanted;
            case "t<": return value < wanted;
            default: return value > wanted;
        }
    }

    private int value(int house, int day, int reading) {
        if (readings.get(reading).kind != 4) return seen(reading, 0);
        int first = seen(reading, 0);
        int last = seen(reading, 1);
        if (first == NO || last == NO) return NO;
        switch (ruled(house, day, 2)) {
            case 0: return first;
            case 1: return (int) floor(first + last, 2);
            default: return last;
        }
    }

    private boolean isCounted(int house, int day, int reading) {
        Told t = readings.get(reading);
        int has = has(house, reading, day);
        int value = value(house, day, reading);
        if (has == 0 || value == NO) return false;
        if (has == 2 && ruled(house, day, 6) == 0) return false;
        if (t.kind == 6 && (ruled(house, day, 5) == 0 || isCounted(house, day, t.source))) return false;
        if ((ruled(house, day, 1) & 1 << edgeOf(reading)) == 0) return false;
        int rule = theRule(house, day);
        if (weight(rule, t.hand) == 0) return false;
        for (String e : strikes(rule)) {
            if (holdsE(e, reading, value)) return false;
        }
        return true;
    }

    private List<Integer> all(int house, int day) {
        List<Integer> all = new ArrayList<>();
        for (int r = 0; r < readings.size(); r++) {
            if (isCounted(house, day, r)) all.add(r);
        }
        return all;
    }

    private static boolean isHouseDay(int house, int day) {
        return in(house, 0, 2) && in(day, 0, 9999);
    }

    public int counted(int house, int day, int what) {
        if (!in(house, 0, 2) || what < -1) return NONE;
        if (!in(day, 0, 9999)) return BAD;
        List<Integer> all = all(house, day);
        if (what == -1) return all.size();
        return what < all.size() ? all.get(what) : NONE;
    }

    public int counts(int house, int day, int reading) {
        if (!isHouseDay(house, day) || !isReading(reading) || !isCounted(house, day, reading)) return NO;
        return value(house, day, reading);
    }

    public int table(int number, int time) {
        if (!in(number, 1, 4)) return NONE;
        if (!isTime(time)) return BAD;
        int was = tables[number];
        tables[number] = time;
        return was;
    }

    public int lever(int station, int number, int v) {
        if (!in(station, 0, stations.size() - 1) || !in(number, 1, 4) || !in(v, -99, 99)) return -100;
        int was = levers[station][number];
        levers[station][number] = v;
        return was;
    }

    private int leverOf(int reading) {
        return levers[clocks.get(readings.get(reading).clock)][edgeOf(reading)];
    }

    private BigInteger[] sumOf(int house, int day, List<Integer> some) {
        BigInteger above = BigInteger.ZERO;
        BigInteger below = BigInteger.ZERO;
        for (int r : some) {
            BigInteger w = BigInteger.valueOf(weight(theRule(house, day), readings.get(r).hand));
            BigInteger l = BigInteger.valueOf(leverOf(r));
            BigInteger d = BigInteger.valueOf(value(house, day, r) - tables[edgeOf(r)]);
            above = above.add(w.multiply(l).multiply(d));
            below = below.add(w.multiply(l).multiply(l));
        }
        if (below.signum() == 0) return null;
        above = above.multiply(BigInteger.valueOf(100));
        BigInteger common = above.gcd(below);
        return new BigInteger[] {above.divide(common), below.divide(common)};
    }

    private static int cut(BigInteger[] sum) {
        return floor(sum[0], sum[1]).max(BigInteger.ZERO).min(BigInteger.valueOf(99999)).intValueExact();
    }

    public long sum(int house, int day, int part) {
        if (!isHouseDay(house, day) || !in(part, 0, 1)) return FAR;
        BigInteger[] sum = sumOf(house, day, all(house, day));
        return sum == null ? FAR : sum[part].longValueExact();
    }

    private int restOf(int house, int day, int r, int p) {
        long foretold = floor(100L * tables[edgeOf(r)] + (long) leverOf(r) * p, 100);
        return (int) (value(house, day, r) - foretold);
    }

    public int distance(int house, int day, int what) {
        if (!isHouseDay(house, day) || !in(what, 0, 1)) return -5;
        List<Integer> all = all(house, day);
        BigInteger[] sum = sumOf(house, day, all);
        if (sum == null) return -5;
        int p = cut(sum);
        if (what == 0) return p;
        BigInteger together = BigInteger.ZERO;
        for (int r : all) {
            BigInteger rest = BigInteger.valueOf(restOf(house, day, r, p));
            BigInteger weight = BigInteger.valueOf(weight(theRule(house, day), readings.get(r).hand));
            together = together.add(weight.multiply(rest).multiply(rest));
        }
        return together.mod(BigInteger.valueOf(1000000007)).intValueExact();
    }

    public int rest(int house, int day, int reading, int p) {
        if (counts(house, day, reading) == NO || !in(p, 0, 99999)) return NO;
        return restOf(house, day, reading, p);
    }

    public int blunders(int house, int day) {
        if (!in(house, 0, 2)) return NONE;
        if (!in(day, 0, 9999)) return BAD;
        List<Integer> all = all(house, day);
        if (all.size() > 12) return STATE;
        for (int many = 0; many <= all.size(); many++) {
            for (int out = 0; out < 1 << all.size(); out++) {
                if (Integer.bitCount(out) == many && isSo(house, day, all, out)) return out;
            }
        }
        return 99;
    }

    private boolean isSo(int house, int day, List<Integer> all, int out) {
        List<Integer> others = new ArrayList<>();
        for (int i = 0; i < all.size(); i++) {
            if ((out & 1 << i) == 0) others.add(all.get(i));
        }
        BigInteger[] sum = sumOf(house, day, others);
        if (sum == null) return true;
        int limit = ruled(house, day, 3);
        for (int r : others) {
            if (Math.abs(restOf(house, day, r, cut(sum))) > limit) return false;
        }
        return true;
    }

    public int tooWell(int house, int day, int span) {
        if (!in(house, 0, 2)) return NONE;
        if (!in(day, 0, 9999) || !in(span, 1, 99)) return BAD;
        List<Integer> all = all(house, day);
        BigInteger[] sum = sumOf(house, day, all);
        if (all.size() > 8 || sum == null) return STATE;
        long rests = 0;
        for (int r : all) rests += Math.abs(restOf(house, day, r, cut(sum)));
        int ways = (int) Math.round(Math.pow(3, all.size()));
        int lesser = 0;
        for (int way = 0; way < ways; way++) {
            long total = 0;
            for (int left = way; left > 0; left /= 3) total += (long) span * (left % 3);
            if (total < rests) lesser++;
        }
        return lesser;
    }

    public int place(int lever, int chance, int cost) {
        if (!in(lever, -99, 99) || !in(chance, 0, 100) || !in(cost, 0, 99)) return BAD;
        if (places.size() == 9) return FULL;
        places.add(new int[] {chance * lever * lever, cost});
        return places.size() - 1;
    }

    /** WORTH, the set, COST, or null. */
    private int[] best(int many, int costs, int without) {
        int[] best = null;
        for (int set = (1 << places.size()) - 1; set > 0; set--) {
            int worth = 0;
            int cost = 0;
            for (int i = 0; i < places.size(); i++) {
                if ((set & 1 << i) != 0) {
                    worth += places.get(i)[0];
                    cost += places.get(i)[1];
                }
            }
            boolean fits = Integer.bitCount(set) == many && cost <= costs && (without < 0 || (set & 1 << without) == 0);
            if (fits && (best == null || worth > best[0] || worth == best[0] && cost <= best[2])) {
                best = new int[] {worth, set, cost};
            }
        }
        return best;
    }

    public int go(int many, int costs, int what) {
        if (!in(what, 0, 2)) return NONE;
        if (!in(many, 1, 5) || !in(costs, 0, 400)) return BAD;
        int[] best = best(many, costs, -1);
        return best == null ? STATE : best[what];
    }

    public int lost(int many, int costs, int place) {
        if (!in(place, 0, places.size() - 1)) return NONE;
        if (!in(many, 1, 5) || !in(costs, 0, 400)) return BAD;
        int[] with = best(many, costs, -1);
        int[] without = best(many, costs, place);
        return with == null || without == null ? STATE : with[0] - without[0];
    }

    private boolean joined(int a, int b) {
        Told one = readings.get(a);
        Told two = readings.get(b);
        return (kindNow(a) == 3 || kindNow(a) == 4) && (kindNow(b) == 3 || kindNow(b) == 4) && one.clock != two.clock
            && clocks.get(one.clock).equals(clocks.get(two.clock)) && one.hand == two.hand && one.edge == two.edge;
    }

    public long difference(int a, int b) {
        if (!isReading(a) || !isReading(b) || a == b || !joined(a, b)) return FAR;
        if (seen(a, 0) == NO || seen(b, 0) == NO) return FAR;
        return seen(a, 0) - seen(b, 0);
    }

    public int beside(int clock) {
        if (!in(clock, 0, clocks.size() - 1)) return NONE;
        if (stops.get(clock) == Integer.MAX_VALUE) return STATE;
        int[] twos = new int[12];
        for (int a = 0; a < readings.size(); a++) {
            for (int b = 0; b < readings.size(); b++) {
                if (readings.get(a).clock == clock && joined(a, b)) twos[readings.get(b).clock]++;
            }
        }
        int best = NONE;
        for (int c = 11; c >= 0; c--) {
            if (twos[c] > 0 && (best == NONE || twos[c] >= twos[best])) best = c;
        }
        return best;
    }

    /** The KINDS as the host's own classes, so that the host says which body runs. */
    private static class Reading {
        final int n, h;
        final List<Integer> trace;

        Reading(int n, int h, List<Integer> trace) {
            this.n = n;
            this.h = h;
            this.trace = trace;
        }

        int times(int x) {
            trace.add(10);
            return x + n;
        }

        int weighs(int x) {
            trace.add(11);
            return times(x) * 2;
        }

        int tells(int x) {
            trace.add(12);
            return weighs(x) - h;
        }
    }

    private static final class Star extends Reading {
        Star(int n, int h, List<Integer> trace) {
            super(n, h, trace);
        }

        @Override
        int times(int x) {
            trace.add(20);
            return super.times(x) ^ 1;
        }
    }

    private static final class Moon extends Reading {
        Moon(int n, int h, List<Integer> trace) {
            super(n, h, trace);
        }

        @Override
        int weighs(int x) {
            trace.add(30);
            return super.weighs(x) + times(2);
        }
    }

    private static class Edge extends Reading {
        Edge(int n, int h, List<Integer> trace) {
            super(n, h, trace);
        }

        @Override
        int tells(int x) {
            trace.add(40);
            return -super.tells(x);
        }
    }

    private static final class Blur extends Edge {
        Blur(int n, int h, List<Integer> trace) {
            super(n, h, trace);
        }

        @Override
        int times(int x) {
            trace.add(50);
            return super.times(x + 3);
        }

        @Override
        int tells(int x) {
            trace.add(51);
            return super.tells(x) + 5;
        }
    }

    private static final class Plate extends Reading {
        Plate(int n, int h, List<Integer> trace) {
            super(n, h, trace);
        }

        @Override
        int weighs(int x) {
            trace.add(60);
            return super.weighs(x) ^ x;
        }
    }

    private static final class Copied extends Reading {
        Copied(int n, int h, List<Integer> trace) {
            super(n, h, trace);
        }

        @Override
        int times(int x) {
            trace.add(70);
            return super.times(x) * 3;
        }
    }

    private static final class Withdrawn extends Reading {
        Withdrawn(int n, int h, List<Integer> trace) {
            super(n, h, trace);
        }

        @Override
        int tells(int x) {
            trace.add(80);
            return times(x) - super.tells(x);
        }
    }

    private Reading asKind(int r) {
        int h = readings.get(r).hand;
        switch (kindNow(r)) {
            case 1: return new Star(r, h, trace);
            case 2: return new Moon(r, h, trace);
            case 3: return new Edge(r, h, trace);
            case 4: return new Blur(r, h, trace);
            case 5: return new Plate(r, h, trace);
            case 6: return new Copied(r, h, trace);
            default: return new Withdrawn(r, h, trace);
        }
    }

    public int act(int reading, int act, int x) {
        trace.clear();
        if (!isReading(reading) || !in(act, 0, 2)) return 0;
        Reading r = asKind(reading);
        return act == 0 ? r.times(x) : act == 1 ? r.weighs(x) : r.tells(x);
    }

    public int trace(int i) {
        return in(i, 0, Math.min(20, trace.size()) - 1) ? trace.get(i) : NONE;
    }

    public int taken(int reading, int k) {
        if (!in(k, 0, 7)) return BAD;
        if (!isReading(reading)) return NOTHING;
        Class<?>[] kinds = {Reading.class, Star.class, Moon.class, Edge.class, Blur.class, Plate.class, Copied.class,
            Withdrawn.class};
        return kinds[k].isInstance(asKind(reading)) ? kindNow(reading) : CAST;
    }

    public int count(int what) {
        int[] counts = {today, stations.size(), clocks.size(), readings.size(), letters.size(), ruleDays.size(),
            text.length(), places.size(), trace.size()};
        return in(what, 0, 8) ? counts[what] : BAD;
    }

    public int tape(int tape, int sort, int n) {
        if (!in(tape, 0, 5)) return NONE;
        if (!in(sort, -1, 3)) return BAD;
        if (sort == -1) {
            tapes[tape] = null;
            return 1;
        }
        if (n > 60) return BAD;
        if (n < 0) return SIZE;
        tapes[tape] = new double[n];
        sorts[tape] = sort;
        return 1;
    }

    public int item(int tape, int i, int v) {
        if (!in(tape, 0, 5)) return NONE;
        if (tapes[tape] == null) return NOTHING;
        if (!in(i, 0, tapes[tape].length - 1)) return PLACE;
        if (sorts[tape] == 3 && !in(v, -8000000, 8000000)) return BAD;
        tapes[tape][i] = sorts[tape] == 3 ? v / 8.0 : sorts[tape] == 0 ? (byte) v : sorts[tape] == 1 ? (short) v : v;
        return 1;
    }

    public int blank(int tape, int i) {
        if (!in(tape, 0, 5)) return NONE;
        if (tapes[tape] == null) return NOTHING;
        if (sorts[tape] != 3) return CAST;
        if (!in(i, 0, tapes[tape].length - 1)) return PLACE;
        tapes[tape][i] = Double.NaN;
        return 1;
    }

    public int read(int tape, int i) {
        if (!in(tape, 0, 5) || tapes[tape] == null || !in(i, 0, tapes[tape].length - 1)) return NO;
        double item = tapes[tape][i];
        if (Double.isNaN(item)) return 999999999;
        return (int) (sorts[tape] == 3 ? Math.floor(item * 8) : item);
    }

    public int shift(int tape, int i, int other, int j, int n) {
        if (!in(tape, 0, 5) || !in(other, 0, 5)) return NONE;
        if (tapes[tape] == null || tapes[other] == null) return NOTHING;
        if (sorts[tape] != sorts[other]) return CAST;
        if (n < 0 || i < 0 || j < 0 || (long) i + n > tapes[tape].length || (long) j + n > tapes[other].length) return PLACE;
        double[] were = tapes[tape].clone();
        for (int k = 0; k < n; k++) tapes[other][j + k] = were[i + k];
        return n;
    }
}
