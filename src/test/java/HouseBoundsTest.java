import java.util.function.Supplier;

/**
 * Promises 17 to 30 at their bounds: letters, texts, rules, what is counted, tables, sums, rests; the last value that is
 * taken and the first that is refused, the first refusal that the words name, and that a refused call changes nothing.
 */
public final class HouseBoundsTest {
    private static final int[] NO_HOUSES = Twins.outside(0, 2);
    private static final int[] NO_DAYS = Twins.outside(0, 9999);
    private static final int[] NO_USUAL_READINGS = Twins.outside(0, 14);

    public static void main(String[] args) {
        letter();
        letterArrives();
        has();
        hasWithdrawn();
        feed();
        rule();
        ruleInForce();
        ruleTexts();
        ruled();
        counted();
        countedNeeds();
        weights();
        testNumbers();
        counts();
        table();
        lever();
        sum();
        distance();
        distanceBounds();
        modulus();
        rest();
        blunders();
        blundersRest();
        tooWell();
        Due.end("HouseBoundsTest");
    }

    private static Supplier<SpotTimers> ruledBy(Supplier<SpotTimers> scene, int house, int day, String text) {
        return () -> {
            SpotTimers x = scene.get();
            Due.ruleBy4(x, house, day, text);
            return x;
        };
    }

    // ---- 17

    private static void letter() {
        for (int station : Twins.outside(0, 2)) {
            Twins.same(Twins.USUAL, Due.NONE, "letter", station, 0, 0);
            Twins.same(Twins.USUAL, Due.NONE, "letter", station, 0, 401);
        }
        for (int house : NO_HOUSES) {
            Twins.same(Twins.USUAL, Due.NONE, "letter", 0, house, 0);
            Twins.same(Twins.FULL, Due.NONE, "letter", 0, house, -1);
        }
        for (int days : Twins.outside(0, 400)) {
            Twins.same(Twins.USUAL, Due.BAD, "letter", 0, 0, days);
            Twins.same(Twins.FULL, Due.BAD, "letter", 0, 0, days);
        }
        for (int days : new int[] {0, 400}) {
            for (int house = 0; house <= 2; house++) {
                Twins.answers(Twins.USUAL, 5, "letter", 0, house, days);
                Twins.answers(Twins.USUAL, 5, "letter", 2, house, days);
                Twins.same(Twins.FULL, Due.FULL, "letter", 10, house, days);
            }
        }
        SpotTimers x = new SpotTimers();
        x.station(0, 0);
        for (int i = 1; i <= 60; i++) {
            Due.due("LETTER " + i, x.letter(0, 0, 400), i);
        }
        Due.due("a LETTER more", x.letter(0, 0, 0), Due.FULL);
        Due.due("LETTERS", x.count(4), 60);
    }

    /** EDGE 1 of HOUSE 0, whose LETTER is written on DAY 7. */
    private static Supplier<SpotTimers> writtenOnDay7(int days) {
        return () -> {
            SpotTimers x = Due.trueClock();
            x.reading(3, 0, 0, 5, 1);
            x.pass(7);
            x.letter(0, 0, days);
            return x;
        };
    }

    private static void letterArrives() {
        for (int days : new int[] {0, 1, 399, 400}) {
            Supplier<SpotTimers> scene = writtenOnDay7(days);
            Twins.same(scene, 0, "has", 0, 1, 7 + days - 1);
            Twins.same(scene, 1, "has", 0, 1, 7 + days);
            Twins.same(scene, 1, "has", 0, 1, 9999);
            Twins.same(scene, 0, "counted", 0, 7 + days - 1, -1);
            Twins.same(scene, 1, "counted", 0, 7 + days, -1);
            Twins.same(scene, 0, "has", 1, 1, 9999);
        }
        SpotTimers late = Due.trueClock();
        late.reading(3, 0, 0, 5, 1);
        for (int i = 0; i < 25; i++) {
            late.pass(i == 24 ? 399 : 400);
        }
        Due.due("a LETTER that arrives on DAY 10000", late.letter(0, 0, 1), 1);
        Due.due("no DAY sees it", late.has(0, 1, 9999), 0);
        Due.due("one that arrives on DAY 9999", late.letter(0, 0, 0), 2);
        Due.due("the DAY ahead does not", late.has(0, 1, 9998), 0);
        Due.due("the last DAY sees it", late.has(0, 1, 9999), 1);
    }

    // ---- 18

    private static void has() {
        for (int house : NO_HOUSES) {
            Twins.same(Twins.USUAL, Due.NONE, "has", house, 5, 3);
            Twins.same(Twins.USUAL, Due.NONE, "has", house, 5, -1);
        }
        for (int reading : NO_USUAL_READINGS) {
            Twins.same(Twins.USUAL, Due.NONE, "has", 0, reading, 3);
            Twins.same(Twins.USUAL, Due.NONE, "has", 0, reading, 10000);
        }
        for (int day : NO_DAYS) {
            Twins.same(Twins.USUAL, Due.BAD, "has", 0, 5, day);
            Twins.same(Twins.USUAL, Due.BAD, "has", 2, 0, day);
        }
        Twins.same(Twins.USUAL, 0, "has", 0, 5, 0);
        Twins.same(Twins.USUAL, 0, "has", 0, 5, 2);
        Twins.same(Twins.USUAL, 1, "has", 0, 5, 3);
        Twins.same(Twins.USUAL, 1, "has", 0, 5, 9999);
        Twins.same(Twins.USUAL, 0, "has", 0, 11, 4);
        Twins.same(Twins.USUAL, 1, "has", 0, 11, 5);
        Twins.same(Twins.USUAL, 0, "has", 0, 14, 9999);
        Twins.same(Twins.USUAL, 0, "has", 2, 0, 9999);
        Twins.same(Twins.FULL, 1, "has", 0, 89, 9999);
        Twins.same(Twins.FULL, Due.NONE, "has", 0, 90, 9999);
    }

    private static void hasWithdrawn() {
        Twins.same(Twins.USUAL, 1, "has", 0, 12, 3);
        Twins.same(Twins.USUAL, 2, "has", 0, 12, 4);
        Twins.same(Twins.USUAL, 1, "has", 1, 12, 9999);
        Twins.same(Twins.USUAL, 1, "has", 0, 13, 9999);
        SpotTimers x = Due.trueClock();
        x.letter(0, 0, 0);
        int edge = x.reading(3, 0, 0, 5, 1);
        Due.due("a LETTER ahead of it", x.has(0, edge, 0), 0);
        x.letter(0, 0, 4);
        x.withdraw(edge);
        Due.due("a LETTER between, DAY 3", x.has(0, edge, 3), 0);
        Due.due("a LETTER between, DAY 4", x.has(0, edge, 4), 1);
        x.letter(0, 0, 2);
        Due.due("a LETTER behind both, DAY 1", x.has(0, edge, 1), 0);
        Due.due("a LETTER behind both, DAY 2", x.has(0, edge, 2), 2);
        Due.due("the earlier LETTER comes later", x.has(0, edge, 4), 2);
    }

    // ---- 19

    private static void feed() {
        for (int n : Twins.outside(0, 4)) {
            Twins.same(Twins.USUAL, Due.BAD, "feed", 'x', n);
            Twins.same(Twins.FULL, Due.BAD, "feed", 'x', n);
        }
        for (int n = 0; n <= 4; n++) {
            Twins.answers(Twins.NEW, n, "feed", 'x', n);
            Twins.answers(Twins.USUAL, 2 + n, "feed", 'x', n);
            Twins.same(Twins.FULL, n == 0 ? 140 : Due.FULL, "feed", 'x', n);
        }
        for (int there = 136; there <= 140; there++) {
            for (int n = 0; n <= 4; n++) {
                SpotTimers x = fed(there);
                Due.due(n + " behind " + there, x.feed(0, n), there + n <= 140 ? there + n : Due.FULL);
                Due.due("bytes then", x.count(6), there + n <= 140 ? there + n : there);
            }
        }
        // The n lowest bytes, the highest of them first: "rest 5" in unlike parts.
        SpotTimers x = new SpotTimers();
        x.feed('?' << 24 | '?' << 16 | '?' << 8 | 'r', 1);
        x.feed('?' << 24 | '?' << 16 | 'e' << 8 | 's', 2);
        x.feed('?' << 24 | 't' << 16 | ' ' << 8 | '5', 3);
        Due.due("by 1, 2, 3", x.rule(0, 0), 0);
        x.feed('r' << 24 | 'e' << 16 | 's' << 8 | 't', 4);
        x.feed('?' << 24 | '?' << 16 | '?' << 8 | '?', 0);
        x.feed('?' << 24 | '?' << 16 | ' ' << 8 | '7', 2);
        Due.due("by 4, 0, 2", x.rule(0, 0), 1);
        Due.due("it says", x.ruled(0, 0, 3), 7);
        x.feed('c' + 128, 1);
        Due.due("a byte above 127 is no sign below", x.rule(0, 0), -10);
        x.feed('c' + 256, 1);
        Due.due("the lowest byte alone", x.rule(0, 0), -11);
    }

    private static SpotTimers fed(int bytes) {
        SpotTimers x = new SpotTimers();
        for (int i = 0; i < bytes / 4; i++) {
            x.feed('c' << 24 | 'o' << 16 | 'p' << 8 | 'i', 4);
        }
        x.feed('c' << 16 | 'o' << 8 | 'p', bytes % 4);
        return x;
    }

    // ---- 20

    private static void rule() {
        for (int house : NO_HOUSES) {
            Twins.same(Twins.USUAL, Due.NONE, "rule", house, 0);
            Twins.same(Twins.USUAL, Due.NONE, "rule", house, -1);
            Twins.same(Twins.FULL, Due.NONE, "rule", house, 10000);
        }
        for (int day : NO_DAYS) {
            Twins.same(Twins.USUAL, Due.BAD, "rule", 0, day);
            Twins.same(Twins.FULL, Due.BAD, "rule", 0, day);
        }
        for (int day : new int[] {0, 9999}) {
            for (int house = 0; house <= 2; house++) {
                Twins.same(Twins.FULL, Due.FULL, "rule", house, day);
                Twins.answers(Twins.USUAL, -12, "rule", house, day);
                Supplier<SpotTimers> fault = Twins.then(Twins.USUAL, "rule", house, day);
                Twins.same(fault, 0, "count", 6);
                Twins.same(fault, 2, "count", 5);
                Supplier<SpotTimers> whole = Twins.then(fault, "feed", 'c' << 16 | 'o' << 8 | 'p', 3);
                whole = Twins.then(whole, "feed", 'i' << 16 | 'e' << 8 | 'd', 3);
                Twins.answers(whole, 2, "rule", house, day);
                Supplier<SpotTimers> made = Twins.then(whole, "rule", house, day);
                Twins.same(made, 0, "count", 6);
                Twins.same(made, 3, "count", 5);
                Twins.same(made, 2, "ruled", house, day, 0);
            }
        }
        SpotTimers x = new SpotTimers();
        for (int i = 0; i <= 11; i++) {
            Due.due("an empty text", x.rule(0, 0), -10);
            Due.due("RULE " + i, Due.ruleBy4(x, i % 3, 9999, "rest 0"), i);
        }
        Due.due("an empty text, full", x.rule(0, 0), Due.FULL);
        Due.due("a RULE more", Due.ruleBy4(x, 0, 0, "rest 0"), Due.FULL);
        Due.due("its text stays", x.count(6), 6);
        Due.due("and stays", x.rule(2, 9999), Due.FULL);
        Due.due("RULES", x.count(5), 12);
        Due.due("no RULE came", x.ruled(0, 9998, 0), -1);
    }

    private static void ruleInForce() {
        for (int day : new int[] {0, 1, 5000, 9998, 9999}) {
            Supplier<SpotTimers> scene = ruledBy(Twins.NEW, 1, day, "rest 77");
            Twins.same(scene, 0, "ruled", 1, day, 0);
            Twins.same(scene, 77, "ruled", 1, 9999, 3);
            if (day > 0) {
                Twins.same(scene, -1, "ruled", 1, day - 1, 0);
                Twins.same(scene, 9999, "ruled", 1, 0, 3);
            }
            Twins.same(scene, -1, "ruled", 0, 9999, 0);
            Twins.same(scene, -1, "ruled", 2, 9999, 0);
            Twins.same(ruledBy(scene, 1, day, "rest 78"), 1, "ruled", 1, day, 0);
            Supplier<SpotTimers> earlier = ruledBy(scene, 1, Math.max(0, day - 1), "rest 79");
            Twins.same(earlier, day == 0 ? 1 : 0, "ruled", 1, day, 0);
            Twins.same(earlier, 1, "ruled", 1, Math.max(0, day - 1), 0);
        }
    }

    private static int read(String text) {
        return Due.ruleBy4(new SpotTimers(), 0, 0, text);
    }

    /** The last that is taken, and the same with one byte more, which is the FAULT. */
    private static void dueLast(String text, String more) {
        Due.due("\"" + text + "\"", read(text), 0);
        Due.due("\"" + text + more + "\"", read(text + more), -10 - text.length());
        Due.due("\"" + text + more + ";copied\"", read(text + more + ";copied"), -10 - text.length());
    }

    private static void dueFault(int place, String text) {
        Due.due("\"" + text + "\"", read(text), -10 - place);
    }

    private static void ruleTexts() {
        dueLast("edges 1234", "1");
        dueLast("edges 123", "3");
        dueLast("edges 4", "5");
        dueLast("edges 1", "0");
        dueFault(6, "edges 0");
        dueFault(6, "edges 5");
        dueFault(6, "edges ");
        dueLast("blur f", "m");
        dueLast("weigh 0 9", " ");
        dueLast("weigh 0 99", "0");
        dueLast("weigh 5 00", "0");
        dueFault(6, "weigh 6 1");
        dueFault(6, "weigh /");
        dueFault(8, "weigh 5 ");
        dueFault(8, "weigh 5 :");
        dueFault(8, "weigh 5 /");
        dueLast("rest 9999", "9");
        dueLast("rest 0000", "0");
        dueLast("rest 0", " ");
        dueFault(5, "rest ");
        for (String test : new String[] {"h=", "s=", "e=", "k="}) {
            dueLast("strike " + test + "0", "x");
            dueLast("strike " + test + "9999", "9");
            dueFault(9, "strike " + test);
        }
        for (String test : new String[] {"t<", "t>"}) {
            dueLast("strike " + test + "0", "x");
            dueLast("strike " + test + "999999", "9");
            dueFault(9, "strike " + test);
        }
        dueLast("copied", " ");
        dueLast("withdrawn", " ");
        dueLast("strike h=1", " ");
        dueLast("copied" + ";copied".repeat(9), ";");
        dueLast("strike h=1" + ";rest 1".repeat(9), ";");
        dueLast("strike (((((h=1)))))", ")");
        dueFault(12, "strike ((((((h=1))))))");
        dueFault(12, "strike (((((!h=1)))))");
        dueFault(12, "strike !!!!!!h=1");
        dueFault(12, "strike !!!!!(h=1)");
        dueLast("strike !(!(!h=1))", ")");
        dueLast("strike (((((h=1&h=2|h=3)))))&(((((h=4)))))|!!!!!h=5", "!");
        dueFault(0, "");
        String longest = "strike h=0001" + "|t<1".repeat(31) + ";re";
        Due.due("140 bytes are fed", longest.length(), 140);
        dueFault(140, longest);
        String whole = "strike h=1" + "|t<1".repeat(32) + "|h";
        Due.due("140 bytes are fed", whole.length(), 140);
        dueFault(140, whole);
        Due.due("140 bytes are whole", read("strike t<12" + "|t<1".repeat(32) + "1"), 0);
    }

    // ---- 21

    private static void ruled() {
        for (int house : NO_HOUSES) {
            for (int what : new int[] {0, 1, 3, 10, 15}) {
                Twins.same(Twins.USUAL, -5, "ruled", house, 3, what);
            }
        }
        for (int day : NO_DAYS) {
            for (int what : new int[] {0, 1, 3, 10, 15}) {
                Twins.same(Twins.USUAL, -5, "ruled", 0, day, what);
            }
        }
        for (int what : new int[] {-1, 7, 8, 9, 16, Integer.MIN_VALUE, Integer.MAX_VALUE}) {
            Twins.same(Twins.USUAL, -5, "ruled", 0, 3, what);
            Twins.same(Twins.USUAL, -5, "ruled", 1, 3, what);
        }
        int[] whats = {0, 1, 2, 3, 4, 5, 6, 10, 11, 12, 13, 14, 15};
        int[] without = {-1, 30, 1, 9999, 0, 0, 0, 1, 1, 1, 1, 1, 1};
        int[] first = {0, 30, 1, 30, 0, 1, 0, 1, 1, 1, 1, 1, 1};
        int[] second = {1, 30, 0, 9999, 0, 0, 1, 3, 1, 1, 1, 1, 1};
        for (int i = 0; i < whats.length; i++) {
            Twins.same(Twins.NEW, without[i], "ruled", 2, 9999, whats[i]);
            Twins.same(Twins.USUAL, without[i], "ruled", 0, 0, whats[i]);
            Twins.same(Twins.USUAL, without[i], "ruled", 0, 2, whats[i]);
            Twins.same(Twins.USUAL, first[i], "ruled", 0, 3, whats[i]);
            Twins.same(Twins.USUAL, first[i], "ruled", 0, 4, whats[i]);
            Twins.same(Twins.USUAL, second[i], "ruled", 0, 5, whats[i]);
            Twins.same(Twins.USUAL, second[i], "ruled", 0, 9999, whats[i]);
        }
        for (int number = 1; number <= 4; number++) {
            Twins.same(ruledBy(Twins.NEW, 0, 0, "edges " + number), 1 << number, "ruled", 0, 0, 1);
        }
        for (int hand = 0; hand <= 5; hand++) {
            Supplier<SpotTimers> scene = ruledBy(Twins.NEW, 0, 0, "weigh " + hand + " 99");
            for (int other = 0; other <= 5; other++) {
                Twins.same(scene, other == hand ? 99 : 1, "ruled", 0, 0, 10 + other);
            }
        }
        Twins.same(ruledBy(Twins.NEW, 0, 0, "edges 12;edges 3"), 8, "ruled", 0, 0, 1);
        Twins.same(ruledBy(Twins.NEW, 0, 0, "blur l;blur f"), 0, "ruled", 0, 0, 2);
        Twins.same(ruledBy(Twins.NEW, 0, 0, "blur l;blur m"), 1, "ruled", 0, 0, 2);
        Twins.same(ruledBy(Twins.NEW, 0, 0, "blur m;blur l"), 2, "ruled", 0, 0, 2);
        Twins.same(ruledBy(Twins.NEW, 0, 0, "rest 5;rest 4"), 4, "ruled", 0, 0, 3);
        Twins.same(ruledBy(Twins.NEW, 0, 0, "weigh 1 5;weigh 2 6;weigh 1 4"), 4, "ruled", 0, 0, 11);
        Twins.same(ruledBy(Twins.NEW, 0, 0, "strike h=1" + ";strike h=1".repeat(9)), 10, "ruled", 0, 0, 4);
    }

    // ---- 22

    private static void counted() {
        for (int house : NO_HOUSES) {
            for (int what : new int[] {-1, 0}) {
                Twins.same(Twins.USUAL, Due.NONE, "counted", house, 3, what);
                Twins.same(Twins.USUAL, Due.NONE, "counted", house, -1, what);
            }
        }
        for (int day : NO_DAYS) {
            Twins.same(Twins.USUAL, Due.BAD, "counted", 0, day, -1);
            Twins.same(Twins.USUAL, Due.BAD, "counted", 0, day, 0);
        }
        for (int what : new int[] {-2, 5, 90, Integer.MIN_VALUE, Integer.MAX_VALUE}) {
            Twins.same(Twins.USUAL, Due.NONE, "counted", 0, 3, what);
        }
        int[] want = {5, 6, 7, 8, 12};
        Twins.same(Twins.USUAL, 5, "counted", 0, 3, -1);
        for (int what = 0; what < want.length; what++) {
            Twins.same(Twins.USUAL, want[what], "counted", 0, 3, what);
        }
        Twins.same(Twins.USUAL, 0, "counted", 0, 2, -1);
        Twins.same(Twins.USUAL, Due.NONE, "counted", 0, 2, 0);
        Twins.same(Twins.USUAL, 4, "counted", 0, 4, -1);
        Twins.same(Twins.USUAL, 6, "counted", 0, 5, -1);
        Twins.same(Twins.USUAL, 0, "counted", 2, 9999, -1);
        SpotTimers x = Due.trueClock();
        for (int i = 1; i <= 89; i++) {
            x.reading(3, 0, 0, i, 1);
        }
        x.letter(0, 0, 0);
        Due.due("all but the STAR", x.counted(0, 0, -1), 89);
        Due.due("the first", x.counted(0, 0, 0), 1);
        Due.due("the last", x.counted(0, 0, 88), 89);
        Due.due("behind the last", x.counted(0, 0, 89), Due.NONE);
    }

    private static void dueCounted(Supplier<SpotTimers> scene, int... want) {
        SpotTimers x = scene.get();
        Due.due("how many", x.counted(0, 9, -1), want.length);
        for (int i = 0; i < want.length; i++) {
            Due.due("the " + i + "th", x.counted(0, 9, i), want[i]);
        }
    }

    /** READINGS 1 an EDGE, 2 a BLUR from 20 to 30, 3 a PLATE, 4 to 6 COPIED ones of them, 7 one of the STAR. */
    private static SpotTimers oneOfEach() {
        SpotTimers x = Due.trueClock();
        x.reading(3, 0, 1, 10, 1);
        x.reading(4, 0, 2, 20, 30);
        x.reading(5, 0, 3, 40, 3500);
        x.copied(1, 11);
        x.copied(2, 21);
        x.copied(3, 41);
        x.copied(0, 1);
        x.letter(0, 0, 9);
        return x;
    }

    private static void countedNeeds() {
        Supplier<SpotTimers> scene = HouseBoundsTest::oneOfEach;
        dueCounted(scene, 1, 2, 3);
        dueCounted(ruledBy(scene, 0, 9, "copied"), 1, 2, 3);
        dueCounted(ruledBy(scene, 0, 9, "copied;strike k=3|k=4|k=5"), 4, 5, 6);
        dueCounted(ruledBy(scene, 0, 9, "copied;strike k=5"), 1, 2, 6);
        dueCounted(ruledBy(scene, 0, 9, "copied;strike k=6"), 1, 2, 3);
        dueCounted(ruledBy(scene, 0, 9, "copied;strike e=1"), 3);
        dueCounted(ruledBy(scene, 0, 9, "copied;edges 3"), 3);
        dueCounted(ruledBy(scene, 0, 9, "copied;weigh 1 0"), 2, 3);
        dueCounted(ruledBy(scene, 0, 10, "edges 3"), 1, 2, 3);
        Supplier<SpotTimers> stopped = Twins.then(scene, "stop", 0, 29);
        dueCounted(stopped, 1);
        dueCounted(ruledBy(stopped, 0, 9, "blur f;copied"), 1, 5);
        dueCounted(Twins.then(scene, "stop", 0, 30), 1, 2);
        dueCounted(Twins.then(scene, "withdraw", 1), 1, 2, 3);
        Supplier<SpotTimers> withdrawn = Twins.then(Twins.then(scene, "withdraw", 1), "letter", 0, 0, 9);
        dueCounted(withdrawn, 2, 3);
        dueCounted(ruledBy(withdrawn, 0, 9, "withdrawn"), 1, 2, 3);
        dueCounted(ruledBy(withdrawn, 0, 9, "copied"), 2, 3, 4);
        dueCounted(ruledBy(withdrawn, 0, 9, "copied;withdrawn"), 1, 2, 3);
        dueCounted(ruledBy(withdrawn, 0, 9, "withdrawn;strike k=7"), 1, 2, 3);
        dueCounted(ruledBy(withdrawn, 0, 9, "withdrawn;strike k=3"), 2, 3);
        Supplier<SpotTimers> starless = Twins.then(scene, "withdraw", 0);
        dueCounted(starless);
    }

    private static void weights() {
        Supplier<SpotTimers> scene = HouseBoundsTest::oneOfEach;
        dueCounted(ruledBy(scene, 0, 9, "weigh 1 0"), 2, 3);
        dueCounted(ruledBy(scene, 0, 9, "weigh 1 00"), 2, 3);
        dueCounted(ruledBy(scene, 0, 9, "weigh 1 1"), 1, 2, 3);
        dueCounted(ruledBy(scene, 0, 9, "weigh 1 0;weigh 1 01"), 1, 2, 3);
        dueCounted(ruledBy(scene, 0, 9, "weigh 0 0;weigh 4 0;weigh 5 0"), 1, 2, 3);
        dueCounted(ruledBy(scene, 0, 9, "weigh 1 0;weigh 2 0;weigh 3 0"));
    }

    private static void testNumbers() {
        Supplier<SpotTimers> scene = HouseBoundsTest::oneOfEach;
        dueCounted(ruledBy(scene, 0, 9, "strike t<10"), 1, 2, 3);
        dueCounted(ruledBy(scene, 0, 9, "strike t<11"), 2, 3);
        dueCounted(ruledBy(scene, 0, 9, "strike t>40"), 1, 2, 3);
        dueCounted(ruledBy(scene, 0, 9, "strike t>39"), 1, 2);
        dueCounted(ruledBy(scene, 0, 9, "strike t<25&t>20"), 1, 2, 3);
        dueCounted(ruledBy(scene, 0, 9, "strike t<26&t>24"), 1, 3);
        dueCounted(ruledBy(scene, 0, 9, "blur f;strike t<21&t>19"), 1, 3);
        dueCounted(ruledBy(scene, 0, 9, "blur l;strike t<31&t>29"), 1, 3);
        dueCounted(ruledBy(scene, 0, 9, "strike h=0|h=4|h=0011|s=1|e=4|e=0|k=0|k=6|k=7"), 1, 2, 3);
        dueCounted(ruledBy(scene, 0, 9, "strike h=0001"), 2, 3);
        dueCounted(ruledBy(scene, 0, 9, "strike s=0"));
        dueCounted(ruledBy(scene, 0, 9, "strike e=3|k=4"), 1);
        dueCounted(ruledBy(scene, 0, 9, "strike h=1|h=2&h=3"), 2, 3);
        dueCounted(ruledBy(scene, 0, 9, "strike (h=1|h=2)&h=2"), 1, 3);
        dueCounted(ruledBy(scene, 0, 9, "strike !h=1&!h=2"), 1, 2);
        dueCounted(ruledBy(scene, 0, 9, "strike !(h=1|h=2)"), 1, 2);
        dueCounted(ruledBy(scene, 0, 9, "strike h=1;strike h=2"), 3);
    }

    // ---- 23

    private static void counts() {
        for (int house : NO_HOUSES) {
            Twins.same(Twins.USUAL, Due.NO, "counts", house, 3, 5);
        }
        for (int day : NO_DAYS) {
            Twins.same(Twins.USUAL, Due.NO, "counts", 0, day, 5);
        }
        for (int reading : NO_USUAL_READINGS) {
            Twins.same(Twins.USUAL, Due.NO, "counts", 0, 3, reading);
        }
        int[] want = {268, 329, 218, 198, Due.NO, Due.NO, Due.NO, 279, Due.NO};
        for (int reading = 5; reading <= 13; reading++) {
            Twins.same(Twins.USUAL, want[reading - 5], "counts", 0, 3, reading);
        }
        Twins.same(Twins.USUAL, Due.NO, "counts", 0, 2, 5);
        Twins.same(Twins.USUAL, Due.NO, "counts", 0, 4, 12);
        Twins.same(Twins.USUAL, 323, "counts", 0, 5, 6);
        Twins.same(Twins.USUAL, Due.NO, "counts", 1, 3, 5);
        Twins.same(Twins.USUAL, 268, "counts", 1, 4, 5);
        int[][] ends = {{20, 21, 20}, {20, 22, 21}, {0, 1, 0}};
        for (int[] end : ends) {
            SpotTimers x = Due.trueClock();
            x.reading(4, 0, 0, end[0], end[1]);
            x.letter(0, 0, 0);
            Due.due("the middle of " + end[0] + " and " + end[1], x.counts(0, 0, 1), end[2]);
        }
        SpotTimers x = new SpotTimers();
        x.station(1, 0);
        x.clock(0);
        x.reading(1, 0, 0, 0, 0);
        x.reading(4, 0, 0, 0, 1);
        x.letter(0, 0, 0);
        Due.due("the middle of -1 and 0, cut down", x.counts(0, 0, 1), -1);
    }

    // ---- 24

    private static void table() {
        for (int number : Twins.outside(1, 4)) {
            Twins.same(Twins.USUAL, Due.NONE, "table", number, 0);
            Twins.same(Twins.USUAL, Due.NONE, "table", number, -1);
        }
        for (int number = 1; number <= 4; number++) {
            for (int time : Twins.outside(0, 999999)) {
                Twins.same(Twins.USUAL, Due.BAD, "table", number, time);
            }
            for (int time : new int[] {0, 999999}) {
                Twins.answers(Twins.NEW, 0, "table", number, time);
                Twins.answers(Twins.USUAL, 100 * number, "table", number, time);
                Supplier<SpotTimers> then = Twins.then(Twins.USUAL, "table", number, time);
                Twins.answers(then, time, "table", number, 5);
                Twins.answers(then, 100 * (5 - number), "table", 5 - number, 5);
            }
        }
    }

    // ---- 25

    private static void lever() {
        for (int station : Twins.outside(0, 2)) {
            Twins.same(Twins.USUAL, -100, "lever", station, 1, 0);
        }
        for (int number : Twins.outside(1, 4)) {
            Twins.same(Twins.USUAL, -100, "lever", 0, number, 0);
        }
        for (int v : Twins.outside(-99, 99)) {
            Twins.same(Twins.USUAL, -100, "lever", 0, 1, v);
            Twins.same(Twins.USUAL, -100, "lever", 2, 4, v);
        }
        for (int v : new int[] {-99, 0, 99}) {
            for (int number = 1; number <= 4; number++) {
                Twins.answers(Twins.USUAL, 5 * number - 12, "lever", 0, number, v);
                Twins.answers(Twins.USUAL, 0, "lever", 2, number, v);
                Supplier<SpotTimers> then = Twins.then(Twins.USUAL, "lever", 2, number, v);
                Twins.answers(then, v, "lever", 2, number, 1);
                Twins.answers(then, 5 * number - 12, "lever", 0, number, 1);
            }
        }
    }

    // ---- 26

    private static void sum() {
        for (int house : NO_HOUSES) {
            Twins.same(Twins.USUAL, Due.FAR, "sum", house, 3, 0);
        }
        for (int day : NO_DAYS) {
            Twins.same(Twins.USUAL, Due.FAR, "sum", 0, day, 1);
        }
        for (int part : Twins.outside(0, 1)) {
            Twins.same(Twins.USUAL, Due.FAR, "sum", 0, 3, part);
        }
        for (int part = 0; part <= 1; part++) {
            Twins.same(Twins.USUAL, Due.FAR, "sum", 0, 2, part);
            Twins.same(Twins.USUAL, Due.FAR, "sum", 2, 9999, part);
        }
        // LEVERS -7, -2; late 168, 129, 118, 98, 79 with -7, -2, -7, -7, -2: 100 * -3104 by 155
        Twins.same(Twins.USUAL, -62080, "sum", 0, 3, 0);
        Twins.same(Twins.USUAL, 31, "sum", 0, 3, 1);
        SpotTimers x = Due.trueClock();
        x.reading(3, 0, 0, 50, 1);
        x.reading(3, 0, 0, 70, 2);
        x.letter(0, 0, 0);
        Due.due("all LEVERS 0", x.sum(0, 0, 0), Due.FAR);
        Due.due("all LEVERS 0, below", x.sum(0, 0, 1), Due.FAR);
        x.lever(0, 3, 5);
        Due.due("a LEVER of none COUNTED", x.sum(0, 0, 0), Due.FAR);
        x.lever(0, 2, -1);
        Due.due("one LEVER", x.sum(0, 0, 0), -7000);
        Due.due("one LEVER, below", x.sum(0, 0, 1), 1);
        x.table(2, 70);
        Due.due("0 is 0", x.sum(0, 0, 0), 0);
        Due.due("by 1", x.sum(0, 0, 1), 1);
    }

    // ---- 27

    private static void distance() {
        for (int what = 0; what <= 1; what++) {
            for (int house : NO_HOUSES) {
                Twins.same(Twins.USUAL, -5, "distance", house, 3, what);
            }
            for (int day : NO_DAYS) {
                Twins.same(Twins.USUAL, -5, "distance", 0, day, what);
            }
            Twins.same(Twins.USUAL, -5, "distance", 0, 2, what);
            Twins.same(Twins.USUAL, -5, "distance", 2, 9999, what);
        }
        for (int what : Twins.outside(0, 1)) {
            Twins.same(Twins.USUAL, -5, "distance", 0, 3, what);
        }
        Twins.same(Twins.USUAL, 0, "distance", 0, 3, 0);
        Twins.same(Twins.USUAL, 168 * 168 + 129 * 129 + 118 * 118 + 98 * 98 + 79 * 79, "distance", 0, 3, 1);
    }

    /** One EDGE with a LEVER, so late. */
    private static SpotTimers late(int lever, int late) {
        SpotTimers x = Due.trueClock();
        x.reading(3, 0, 0, late >= 0 ? late : 0, 1);
        x.table(1, late >= 0 ? 0 : -late);
        x.lever(0, 1, lever);
        x.letter(0, 0, 0);
        return x;
    }

    private static void distanceBounds() {
        int[][] want = {
            {1, 0, 0}, {1, 1, 100}, {1, -1, 0}, {-1, -1, 100}, {-1, 1, 0}, {3, 1, 33}, {3, 2, 66}, {3, 3, 100},
            {99, 98998, 99997}, {99, 98999, 99998}, {99, 99000, 99999}, {1, 999, 99900}, {1, 1000, 99999},
            {1, 999999, 99999}, {-1, -999999, 99999}, {-99, 999999, 0}, {7, -1, 0}, {50, 1, 2}, {99, 1, 1}};
        for (int[] w : want) {
            Due.due("DISTANCE of LEVER " + w[0] + ", late " + w[1], late(w[0], w[1]).distance(0, 0, 0), w[2]);
        }
        // 0.99 and below are 0, -0.01 too.
        SpotTimers x = Due.trueClock();
        x.lever(0, 1, 99);
        x.lever(0, 2, 1);
        x.reading(3, 0, 0, 0, 1);
        x.reading(3, 0, 0, 98, 2);
        x.letter(0, 0, 0);
        Due.due("9800 by 9802", x.sum(0, 0, 0) * 4901 - 4900 * x.sum(0, 0, 1), 0);
        Due.due("is 0", x.distance(0, 0, 0), 0);
        x.reading(3, 0, 0, 1, 1);
        x.letter(0, 0, 0);
        Due.due("19700 by 19603 is 1", x.distance(0, 0, 0), 1);
    }

    /** The DISTANCE is 0, so what is TOGETHER is the sum of the squares. */
    private static SpotTimers squares(int... lates) {
        SpotTimers x = Due.trueClock();
        x.lever(0, 1, -1);
        for (int late : lates) {
            x.reading(3, 0, 0, late, 1);
        }
        x.letter(0, 0, 0);
        return x;
    }

    private static void modulus() {
        // 31622 * 31622 = 999950884
        Due.due("1000000006", squares(31622, 221, 16, 5).distance(0, 0, 1), 999950884 + 48841 + 256 + 25);
        Due.due("1000000006 stays", squares(31622, 221, 16, 5).distance(0, 0, 1), 1000000006);
        Due.due("1000000007 leaves 0", squares(31622, 221, 16, 5, 1).distance(0, 0, 1), 0);
        Due.due("1000000008 leaves 1", squares(31622, 221, 16, 5, 1, 1).distance(0, 0, 1), 1);
        SpotTimers x = squares(31622, 221, 16, 5);
        Due.ruleBy4(x, 0, 0, "weigh 0 99");
        Due.due("weight times the square", x.distance(0, 0, 1), 1000000007L - 99);
    }

    // ---- 28

    private static void rest() {
        for (int house : NO_HOUSES) {
            Twins.same(Twins.USUAL, Due.NO, "rest", house, 3, 5, 0);
        }
        for (int day : NO_DAYS) {
            Twins.same(Twins.USUAL, Due.NO, "rest", 0, day, 5, 0);
        }
        for (int reading : NO_USUAL_READINGS) {
            Twins.same(Twins.USUAL, Due.NO, "rest", 0, 3, reading, 0);
        }
        for (int p : Twins.outside(0, 99999)) {
            Twins.same(Twins.USUAL, Due.NO, "rest", 0, 3, 5, p);
        }
        for (int reading : new int[] {0, 4, 9, 10, 11, 13, 14}) {
            Twins.same(Twins.USUAL, Due.NO, "rest", 0, 3, reading, 0);
        }
        Twins.same(Twins.USUAL, Due.NO, "rest", 0, 2, 5, 0);
        Twins.same(Twins.USUAL, 168, "rest", 0, 3, 5, 0);
        Twins.same(Twins.USUAL, 168 + 7000, "rest", 0, 3, 5, 99999);
        int[][] cuts = {{1, 99, 0}, {1, 100, 1}, {1, 101, 1}, {-1, 1, -1}, {-1, 100, -1}, {-1, 101, -2}, {99, 1, 0},
            {99, 2, 1}, {-99, 1, -1}, {-99, 2, -2}, {99, 99999, 98999}, {-99, 99999, -99000}, {0, 99999, 0}};
        for (int[] cut : cuts) {
            Due.due("REST for LEVER " + cut[0] + ", P " + cut[1], late(cut[0], 500).rest(0, 0, 1, cut[1]), 500 - cut[2]);
            Due.due("of one too early", late(cut[0], -500).rest(0, 0, 1, cut[1]), -500 - cut[2]);
        }
    }

    // ---- 29

    private static void blunders() {
        for (int house : NO_HOUSES) {
            Twins.same(Twins.USUAL, Due.NONE, "blunders", house, 3);
            Twins.same(Twins.USUAL, Due.NONE, "blunders", house, -1);
        }
        for (int day : NO_DAYS) {
            Twins.same(Twins.USUAL, Due.BAD, "blunders", 0, day);
        }
        Twins.same(Twins.USUAL, 0, "blunders", 0, 2);
        Twins.same(Twins.USUAL, 31, "blunders", 0, 3);
        Twins.same(Twins.USUAL, 0, "blunders", 2, 9999);
        Twins.same(Twins.FULL, Due.STATE, "blunders", 0, 9999);
        for (int many = 0; many <= 14; many++) {
            SpotTimers x = Due.trueClock();
            x.lever(0, 1, 10);
            for (int i = 0; i < many; i++) {
                x.reading(3, 0, 0, 100, 1);
            }
            x.letter(0, 0, 0);
            Due.due("BLUNDERS of " + many, x.blunders(0, 0), many <= 12 ? 0 : Due.STATE);
        }
    }

    private static void blundersRest() {
        // Of two with one LEVER the DISTANCE lies in the middle.
        for (int rest = 0; rest <= 9999; rest += rest < 3 ? 1 : 3332) {
            SpotTimers x = Due.trueClock();
            x.lever(0, 1, 20);
            x.reading(3, 0, 0, 100, 1);
            x.reading(3, 0, 0, 100 + 2 * rest, 1);
            x.letter(0, 0, 0);
            Due.ruleBy4(x, 0, 0, "rest " + rest);
            int p = x.distance(0, 0, 0);
            Due.due("DISTANCE", p, 500 + 5 * rest);
            Due.due("the one's REST", x.rest(0, 0, 1, p), -rest);
            Due.due("the other's REST", x.rest(0, 0, 2, p), rest);
            Due.due("a REST of rest", x.blunders(0, 0), 0);
            if (rest > 0) {
                Due.ruleBy4(x, 0, 0, "rest " + (rest - 1));
                Due.due("a REST of rest and 1", x.blunders(0, 0), 1);
            }
        }
        SpotTimers none = Due.trueClock();
        none.reading(3, 0, 0, 100000, 1);
        none.reading(3, 0, 0, 500000, 2);
        none.letter(0, 0, 0);
        Due.ruleBy4(none, 0, 0, "rest 0");
        Due.due("all LEVERS 0: it is so", none.blunders(0, 0), 0);
        none.lever(0, 2, 1);
        Due.due("left out the one with a LEVER: it is so", none.blunders(0, 0), 2);
        none.lever(0, 1, 1);
        Due.due("without others: it is so", none.blunders(0, 0), 3);
    }

    // ---- 30

    private static void tooWell() {
        for (int house : NO_HOUSES) {
            Twins.same(Twins.USUAL, Due.NONE, "tooWell", house, 3, 1);
            Twins.same(Twins.USUAL, Due.NONE, "tooWell", house, -1, 0);
        }
        for (int day : NO_DAYS) {
            Twins.same(Twins.USUAL, Due.BAD, "tooWell", 0, day, 1);
            Twins.same(Twins.FULL, Due.BAD, "tooWell", 0, day, 1);
        }
        for (int span : Twins.outside(1, 99)) {
            Twins.same(Twins.USUAL, Due.BAD, "tooWell", 0, 3, span);
            Twins.same(Twins.USUAL, Due.BAD, "tooWell", 0, 2, span);
            Twins.same(Twins.FULL, Due.BAD, "tooWell", 0, 9999, span);
        }
        Twins.same(Twins.USUAL, Due.STATE, "tooWell", 0, 2, 1);
        Twins.same(Twins.USUAL, Due.STATE, "tooWell", 2, 9999, 99);
        Twins.same(Twins.FULL, Due.STATE, "tooWell", 0, 9999, 1);
        // Rests of 592 together: all 243 ways of 1; of 99, those of 5 spans or fewer.
        Twins.same(Twins.USUAL, 243, "tooWell", 0, 3, 1);
        Twins.same(Twins.USUAL, 1 + 5 + 15 + 30 + 45 + 51, "tooWell", 0, 3, 99);
        for (int many = 0; many <= 10; many++) {
            int[] lates = new int[many];
            for (int i = 0; i < many; i++) {
                lates[i] = 1;
            }
            int all = (int) Math.round(Math.pow(3, many));
            int middle = new int[] {1, 1, 3, 7, 19, 51, 141, 393, 1107, 0, 0}[many];
            Due.due("TOO WELL of " + many, squares(lates).tooWell(0, 0, 1),
                many == 0 || many > 8 ? Due.STATE : (all - middle) / 2);
        }
        Due.due("all ways of 8, each of 2 spans of 99", squares(199, 199, 199, 199, 199, 199, 199, 199).tooWell(0, 0, 99),
            6561);
        Due.due("all ways of 8 but the greatest", squares(198, 198, 198, 198, 198, 198, 198, 198).tooWell(0, 0, 99), 6560);
        for (int span = 1; span <= 99; span++) {
            // One rest of 50: 0 is lesser, a span below 50, two below 25.
            Due.due("TOO WELL with a span of " + span, squares(50).tooWell(0, 0, span),
                1 + (span < 50 ? 1 : 0) + (span < 25 ? 1 : 0));
        }
        SpotTimers none = Due.trueClock();
        none.reading(3, 0, 0, 5, 1);
        none.letter(0, 0, 0);
        Due.due("all LEVERS 0", none.tooWell(0, 0, 1), Due.STATE);
        none.lever(0, 1, 1);
        Due.due("no rest is lesser than 0", none.tooWell(0, 0, 1), 0);
    }
}
