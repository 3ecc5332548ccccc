import java.util.function.Supplier;

/**
 * Promises 1 to 16 at their bounds: the last value that is taken and the first that is refused, on either side; the
 * empty and the full; the first refusal that the words name; and that a refused call changes nothing.
 */
public final class StationBoundsTest {
    private static final int[] NO_TIMES = Twins.outside(0, 999999);
    private static final int[] NO_HANDS = Twins.outside(0, 5);
    private static final int[] NO_EDGES = Twins.outside(1, 4);
    private static final int[] NO_USUAL_READINGS = Twins.outside(0, 14);

    public static void main(String[] args) {
        newObject();
        pass();
        station();
        clock();
        stop();
        reading();
        readingMore();
        number();
        copied();
        withdraw();
        of();
        time();
        timeBesideStars();
        longitude();
        seen();
        seenByHeight();
        like();
        book();
        bookTimes();
        bookRoom();
        ended();
        Due.end("StationBoundsTest");
    }

    private static SpotTimers make(Supplier<SpotTimers> scene) {
        return scene.get();
    }

    // ---- 1

    private static void newObject() {
        for (int what = 0; what <= 8; what++) {
            Twins.same(Twins.NEW, 0, "count", what);
        }
        for (int house = 0; house < 3; house++) {
            for (int day : new int[] {0, 9999}) {
                Twins.same(Twins.NEW, 0, "counted", house, day, -1);
                Twins.same(Twins.NEW, Due.NONE, "counted", house, day, 0);
                Twins.same(Twins.NEW, Due.FAR, "sum", house, day, 0);
                Twins.same(Twins.NEW, -5, "distance", house, day, 0);
                Twins.same(Twins.NEW, 0, "blunders", house, day);
                Twins.same(Twins.NEW, Due.STATE, "tooWell", house, day, 1);
                Twins.same(Twins.NEW, -1, "ruled", house, day, 0);
            }
        }
        for (int tape = 0; tape < 6; tape++) {
            Twins.same(Twins.NEW, Due.NOTHING, "item", tape, 0, 0);
            Twins.same(Twins.NEW, Due.NO, "read", tape, 0);
        }
        Twins.same(Twins.NEW, Due.NONE, "clock", 0);
        Twins.same(Twins.NEW, Due.NONE, "stop", 0, 0);
        Twins.same(Twins.NEW, Due.NONE, "reading", 1, 0, 0, 0, 0);
        Twins.same(Twins.NEW, Due.NONE, "number", 0, 1);
        Twins.same(Twins.NEW, Due.NONE, "copied", 0, 0);
        Twins.same(Twins.NEW, Due.NONE, "withdraw", 0);
        Twins.same(Twins.NEW, Due.NO, "of", 0, 0);
        Twins.same(Twins.NEW, Due.NO, "time", 0, 0);
        Twins.same(Twins.NEW, Due.NO, "longitude", 0);
        Twins.same(Twins.NEW, Due.NO, "seen", 0, 0);
        Twins.same(Twins.NEW, Due.NONE, "like", 0);
        Twins.same(Twins.NEW, Due.NONE, "book", 0, 0, 1, 0, 0, 1);
        Twins.same(Twins.NEW, Due.STATE, "ended");
        Twins.same(Twins.NEW, Due.NONE, "letter", 0, 0, 0);
        Twins.same(Twins.NEW, Due.NONE, "has", 0, 0, 0);
        Twins.same(Twins.NEW, Due.NO, "counts", 0, 0, 0);
        Twins.same(Twins.NEW, -100, "lever", 0, 1, 0);
        Twins.same(Twins.NEW, Due.NO, "rest", 0, 0, 0, 0);
        Twins.same(Twins.NEW, Due.STATE, "go", 1, 400, 0);
        Twins.same(Twins.NEW, Due.NONE, "lost", 1, 400, 0);
        Twins.same(Twins.NEW, Due.FAR, "difference", 0, 0);
        Twins.same(Twins.NEW, Due.NONE, "beside", 0);
        Twins.same(Twins.NEW, 0, "act", 0, 0, 0);
        Twins.same(Twins.NEW, Due.NONE, "trace", 0);
        Twins.same(Twins.NEW, Due.NOTHING, "taken", 0, 0);
        Twins.same(Twins.NEW, Due.NOTHING, "blank", 0, 0);
        Twins.same(Twins.NEW, Due.NOTHING, "shift", 0, 0, 0, 0, 0);
    }

    // ---- 2

    private static void pass() {
        for (int n : Twins.outside(1, 400)) {
            Twins.same(Twins.NEW, Due.BAD, "pass", n);
            Twins.same(Twins.USUAL, Due.BAD, "pass", n);
            Twins.same(Twins.FULL, Due.BAD, "pass", n);
        }
        Twins.answers(Twins.NEW, 1, "pass", 1);
        Twins.answers(Twins.NEW, 400, "pass", 400);
        Twins.answers(Twins.USUAL, 403, "pass", 400);
        Twins.same(Twins.FULL, Due.BAD, "pass", 1);
        Twins.same(Twins.FULL, Due.BAD, "pass", 400);
        Supplier<SpotTimers> late = StationBoundsTest::day9600;
        Twins.same(late, 9600, "count", 0);
        Twins.same(late, Due.BAD, "pass", 400);
        Twins.answers(late, 9999, "pass", 399);
        Twins.answers(late, 9998, "pass", 398);
    }

    private static SpotTimers day9600() {
        SpotTimers x = new SpotTimers();
        for (int i = 0; i < 24; i++) {
            x.pass(400);
        }
        return x;
    }

    // ---- 3

    private static void station() {
        for (int longitude : new int[] {-43201, 43201, 99998, 100000, -99999, Integer.MIN_VALUE, Integer.MAX_VALUE}) {
            Twins.same(Twins.USUAL, Due.BAD, "station", longitude, 0);
            Twins.same(Twins.FULL, Due.BAD, "station", longitude, 0);
        }
        for (int height : Twins.outside(0, 4000)) {
            Twins.same(Twins.USUAL, Due.BAD, "station", 0, height);
            Twins.same(Twins.USUAL, Due.BAD, "station", 99999, height);
            Twins.same(Twins.FULL, Due.BAD, "station", 99999, height);
        }
        for (int longitude : new int[] {-43200, -1, 0, 1, 43200, 99999}) {
            Twins.answers(Twins.NEW, 0, "station", longitude, 0);
            Twins.answers(Twins.NEW, 0, "station", longitude, 4000);
            Twins.same(Twins.then(Twins.NEW, "station", longitude, 4000), longitude == 99999 ? Due.NO : longitude,
                "longitude", 0);
            Twins.same(Twins.FULL, Due.FULL, "station", longitude, 0);
        }
        Twins.same(Twins.then(Twins.NEW, "station", 43200, 0), 1, "count", 1);
        SpotTimers x = new SpotTimers();
        for (int i = 0; i <= 10; i++) {
            Due.due("STATION " + i, x.station(i, i), i);
        }
        Due.due("a STATION more", x.station(0, 0), Due.FULL);
        Due.due("STATION 10's CLOCK", x.clock(10), 0);
        Due.due("STATION 11's CLOCK", x.clock(11), Due.NONE);
    }

    // ---- 4

    private static void clock() {
        for (int station : Twins.outside(0, 2)) {
            Twins.same(Twins.USUAL, Due.NONE, "clock", station);
        }
        for (int station : Twins.outside(0, 10)) {
            Twins.same(Twins.FULL, Due.NONE, "clock", station);
        }
        Twins.same(Twins.FULL, Due.FULL, "clock", 0);
        Twins.same(Twins.FULL, Due.FULL, "clock", 10);
        Twins.answers(Twins.USUAL, 4, "clock", 0);
        Twins.answers(Twins.USUAL, 4, "clock", 2);
        Twins.same(Twins.then(Twins.USUAL, "clock", 2), Due.NO, "time", 4, 0);
        SpotTimers x = new SpotTimers();
        x.station(0, 0);
        for (int i = 0; i <= 11; i++) {
            Due.due("CLOCK " + i, x.clock(0), i);
        }
        Due.due("a CLOCK more", x.clock(0), Due.FULL);
        Due.due("CLOCK 11 has a STAR", x.reading(1, 11, 0, 5, 6), 0);
        Due.due("CLOCK 11 shows", x.time(11, 0), 1);
    }

    // ---- 5

    private static void stop() {
        for (int clock : Twins.outside(0, 3)) {
            Twins.same(Twins.USUAL, Due.NONE, "stop", clock, 5);
            Twins.same(Twins.USUAL, Due.NONE, "stop", clock, -1);
        }
        for (int time : NO_TIMES) {
            Twins.same(Twins.USUAL, Due.BAD, "stop", 0, time);
            Twins.same(Twins.USUAL, Due.BAD, "stop", 1, time);
        }
        for (int time : new int[] {0, 1, 599, 600, 601, 999999}) {
            Twins.same(Twins.USUAL, Due.STATE, "stop", 1, time);
            Twins.answers(Twins.USUAL, 1, "stop", 0, time);
            Supplier<SpotTimers> stopped = Twins.then(Twins.then(Twins.USUAL, "reading", 1, 3, 0, 0, 0), "stop", 3, time);
            Twins.same(stopped, time, "time", 3, time);
            Twins.same(stopped, Due.NO, "time", 3, time + 1);
            Twins.same(stopped, Due.STATE, "stop", 3, time);
        }
        Supplier<SpotTimers> atOnce = Twins.then(Twins.NEW, "station", 0, 0);
        atOnce = Twins.then(Twins.then(atOnce, "clock", 0), "stop", 0, 10);
        Twins.same(Twins.then(atOnce, "reading", 1, 0, 0, 10, 12), 12, "time", 0, 10);
        Twins.same(Twins.then(atOnce, "reading", 1, 0, 0, 11, 12), Due.NO, "time", 0, 10);
    }

    // ---- 6

    private static void reading() {
        for (int kind = 1; kind <= 5; kind++) {
            int more = moreOf(kind);
            for (int clock : Twins.outside(0, 3)) {
                Twins.same(Twins.USUAL, Due.NONE, "reading", kind, clock, 0, 10, more);
                Twins.same(Twins.USUAL, Due.NONE, "reading", kind, clock, 0, -1, -1);
            }
            for (int hand : NO_HANDS) {
                Twins.same(Twins.USUAL, Due.NONE, "reading", kind, 0, hand, 10, more);
                Twins.same(Twins.FULL, Due.NONE, "reading", kind, 0, hand, -1, -1);
            }
            for (int shows : NO_TIMES) {
                Twins.same(Twins.USUAL, Due.BAD, "reading", kind, 0, 0, shows, more);
                Twins.same(Twins.FULL, Due.BAD, "reading", kind, 0, 0, shows, more);
            }
            for (int hand : new int[] {0, 5}) {
                Twins.answers(Twins.USUAL, 15, "reading", kind, 3, hand, 10, more);
                Twins.same(Twins.then(Twins.USUAL, "reading", kind, 3, hand, 10, more), hand, "of", 15, 3);
            }
            Twins.answers(Twins.USUAL, 15, "reading", kind, 0, 0, 0, more);
            Twins.answers(Twins.USUAL, 15, "reading", kind, 0, 0, 999999, kind == 4 ? 999999 : more);
            Twins.same(Twins.FULL, Due.FULL, "reading", kind, 0, 0, 10, more);
        }
        for (int kind : Twins.outside(1, 5)) {
            for (int more : new int[] {1, 10, 1500}) {
                Twins.same(Twins.USUAL, Due.BAD, "reading", kind, 0, 0, 1, more);
                Twins.same(Twins.FULL, Due.BAD, "reading", kind, 0, 0, 1, more);
            }
        }
        Twins.same(Twins.USUAL, Due.BAD, "reading", 7, 0, 0, 1, 1);
    }

    private static int moreOf(int kind) {
        return kind == 3 ? 1 : kind == 5 ? 1500 : 10;
    }

    private static void readingMore() {
        for (int kind = 1; kind <= 2; kind++) {
            for (int more : NO_TIMES) {
                Twins.same(Twins.USUAL, Due.BAD, "reading", kind, 0, 0, 10, more);
                Twins.same(Twins.FULL, Due.BAD, "reading", kind, 0, 0, 10, more);
            }
            Twins.answers(Twins.USUAL, 15, "reading", kind, 0, 0, 10, 0);
            Twins.answers(Twins.USUAL, 15, "reading", kind, 0, 0, 10, 999999);
        }
        for (int more : NO_EDGES) {
            Twins.same(Twins.USUAL, Due.BAD, "reading", 3, 0, 0, 10, more);
        }
        for (int more : new int[] {9, 1000000, -1, Integer.MIN_VALUE, Integer.MAX_VALUE}) {
            Twins.same(Twins.USUAL, Due.BAD, "reading", 4, 0, 0, 10, more);
        }
        for (int more : new int[] {10, 11, 999999}) {
            Twins.answers(Twins.USUAL, 15, "reading", 4, 0, 0, 10, more);
            Twins.same(Twins.then(Twins.USUAL, "reading", 4, 0, 0, 10, more), 1, "of", 15, 5);
        }
        for (int number = 1; number <= 4; number++) {
            Twins.same(Twins.then(Twins.USUAL, "reading", 3, 0, 0, 10, number), number, "of", 15, 5);
            for (int moreOrLess : new int[] {-100, 100, -500, 499, 500, -501}) {
                Twins.same(Twins.USUAL, Due.BAD, "reading", 5, 0, 0, 10, 1000 * number + 500 + moreOrLess);
            }
            for (int moreOrLess : new int[] {-99, -1, 0, 1, 99}) {
                Supplier<SpotTimers> told = Twins.then(Twins.USUAL, "reading", 5, 0, 0, 100,
                    1000 * number + 500 + moreOrLess);
                Twins.same(told, number, "of", 15, 5);
                Twins.same(told, 150 - 100 - 2 + moreOrLess, "seen", 15, 0);
            }
        }
        for (int more : new int[] {500, 599, 401, 0, -1500, 5500, 5401, 4600, 400, 1000500, Integer.MIN_VALUE,
                Integer.MAX_VALUE}) {
            Twins.same(Twins.USUAL, Due.BAD, "reading", 5, 0, 0, 10, more);
        }
    }

    // ---- 7

    private static void number() {
        for (int reading : NO_USUAL_READINGS) {
            Twins.same(Twins.USUAL, Due.NONE, "number", reading, 1);
            Twins.same(Twins.USUAL, Due.NONE, "number", reading, 5);
        }
        Supplier<SpotTimers> withdrawn = Twins.then(Twins.USUAL, "withdraw", 6);
        for (int reading : new int[] {0, 4, 5, 7, 9, 10, 12, 13}) {
            Twins.same(Twins.USUAL, Due.CAST, "number", reading, 1);
            Twins.same(Twins.USUAL, Due.CAST, "number", reading, 0);
        }
        Twins.same(withdrawn, Due.CAST, "number", 6, 1);
        Twins.same(withdrawn, Due.CAST, "number", 6, 5);
        for (int number : NO_EDGES) {
            Twins.same(Twins.USUAL, Due.BAD, "number", 6, number);
        }
        for (int number = 1; number <= 4; number++) {
            Twins.answers(Twins.USUAL, 2, "number", 6, number);
            Supplier<SpotTimers> then = Twins.then(Twins.USUAL, "number", 6, number);
            Twins.same(then, number, "of", 6, 5);
            Twins.same(then, number, "of", 9, 5);
            Twins.answers(then, number, "number", 6, 1);
        }
    }

    // ---- 8

    private static void copied() {
        for (int source : NO_USUAL_READINGS) {
            Twins.same(Twins.USUAL, Due.NONE, "copied", source, 5);
            Twins.same(Twins.USUAL, Due.NONE, "copied", source, -1);
        }
        for (int source : Twins.outside(0, 89)) {
            Twins.same(Twins.FULL, Due.NONE, "copied", source, 5);
        }
        for (int shows : NO_TIMES) {
            Twins.same(Twins.USUAL, Due.BAD, "copied", 5, shows);
            Twins.same(Twins.USUAL, Due.BAD, "copied", 9, shows);
            Twins.same(Twins.FULL, Due.BAD, "copied", 1, shows);
            Twins.same(Twins.FULL, Due.BAD, "copied", 2, shows);
        }
        for (int shows : new int[] {0, 999999}) {
            Twins.same(Twins.USUAL, Due.STATE, "copied", 9, shows);
            Twins.same(Twins.USUAL, Due.STATE, "copied", 13, shows);
            Twins.same(Twins.FULL, Due.STATE, "copied", 2, shows);
            Twins.same(Twins.FULL, Due.FULL, "copied", 1, shows);
            for (int source : new int[] {0, 4, 5, 6, 7, 12}) {
                Twins.answers(Twins.USUAL, 15, "copied", source, shows);
                Supplier<SpotTimers> then = Twins.then(Twins.USUAL, "copied", source, shows);
                Twins.same(then, 6, "of", 15, 0);
                Twins.same(then, shows, "of", 15, 4);
                Twins.same(then, 3, "of", 15, 6);
                Twins.same(then, source, "of", 15, 7);
                Twins.same(then, make(then).of(source, 2), "of", 15, 2);
                Twins.same(then, make(then).of(source, 3), "of", 15, 3);
                Twins.same(then, make(then).of(source, 5), "of", 15, 5);
            }
        }
        SpotTimers x = Due.trueClock();
        for (int i = 1; i <= 89; i++) {
            Due.due("COPIED " + i, x.copied(0, i), i);
        }
        Due.due("a COPIED more", x.copied(0, 90), Due.FULL);
        Due.due("a STAR more", x.reading(1, 0, 0, 90, 90), Due.FULL);
        Due.due("READINGS", x.count(3), 90);
    }

    // ---- 9

    private static void withdraw() {
        for (int reading : NO_USUAL_READINGS) {
            Twins.same(Twins.USUAL, Due.NONE, "withdraw", reading);
        }
        for (int reading : Twins.outside(0, 89)) {
            Twins.same(Twins.FULL, Due.NONE, "withdraw", reading);
        }
        Twins.same(Twins.USUAL, Due.STATE, "withdraw", 12);
        Twins.same(Twins.USUAL, Due.STATE, "withdraw", 13);
        for (int reading : new int[] {0, 4, 5, 6, 7, 9, 14}) {
            Twins.answers(Twins.USUAL, 1, "withdraw", reading);
            Supplier<SpotTimers> then = Twins.then(Twins.USUAL, "withdraw", reading);
            Twins.same(then, Due.STATE, "withdraw", reading);
            for (int what = 1; what <= 7; what++) {
                Twins.same(then, make(Twins.USUAL).of(reading, what), "of", reading, what);
            }
            Twins.same(then, 7, "of", reading, 0);
        }
        Supplier<SpotTimers> source = Twins.then(Twins.USUAL, "withdraw", 6);
        Twins.same(source, 6, "of", 9, 0);
        Twins.same(source, make(Twins.USUAL).seen(9, 0), "seen", 9, 0);
        Twins.answers(Twins.FULL, 1, "withdraw", 89);
    }

    // ---- 10

    private static void of() {
        for (int reading : NO_USUAL_READINGS) {
            for (int what = 0; what <= 7; what++) {
                Twins.same(Twins.USUAL, Due.NO, "of", reading, what);
            }
        }
        for (int what : Twins.outside(0, 7)) {
            for (int reading : new int[] {0, 9, 14, 15}) {
                Twins.same(Twins.USUAL, Due.NO, "of", reading, what);
            }
        }
        int[][] want = {
            {1, 1, 0, 0, 100, Due.NONE, 0, Due.NONE}, {2, 2, 2, 0, 300, Due.NONE, 0, Due.NONE},
            {3, 3, 0, 0, 300, 1, 3, Due.NONE}, {4, 4, 0, 1, 350, 2, 3, Due.NONE}, {5, 5, 1, 0, 300, 1, 3, Due.NONE},
            {6, 6, 0, 1, 352, 2, 3, 6}, {6, 6, 0, 0, 300, 1, 3, 5}, {7, 3, 0, 0, 310, 2, 3, Due.NONE},
            {7, 6, 2, 2, 411, 3, 3, 11}};
        int[] readings = {0, 4, 5, 6, 7, 9, 10, 12, 13};
        for (int i = 0; i < readings.length; i++) {
            for (int what = 0; what <= 7; what++) {
                Twins.same(Twins.USUAL, want[i][what], "of", readings[i], what);
            }
        }
        Supplier<SpotTimers> star = Twins.then(Twins.USUAL, "copied", 0, 5);
        Twins.same(star, Due.NONE, "of", 15, 5);
        Supplier<SpotTimers> later = Twins.then(Twins.then(Twins.USUAL, "pass", 2), "copied", 5, 5);
        Twins.same(later, 5, "of", 15, 6);
    }

    // ---- 11

    private static void time() {
        for (int clock : Twins.outside(0, 3)) {
            Twins.same(Twins.USUAL, Due.NO, "time", clock, 100);
        }
        for (int shows : NO_TIMES) {
            Twins.same(Twins.USUAL, Due.NO, "time", 0, shows);
            Twins.same(Twins.USUAL, Due.NO, "time", 1, shows);
        }
        Twins.same(Twins.USUAL, Due.NO, "time", 3, 0);
        Twins.same(Twins.USUAL, 40, "time", 0, 0);
        Twins.same(Twins.USUAL, 1100038, "time", 0, 999999);
        Twins.same(Twins.USUAL, 10, "time", 1, 0);
        Twins.same(Twins.USUAL, 610, "time", 1, 600);
        Twins.same(Twins.USUAL, Due.NO, "time", 1, 601);
        Twins.same(Twins.USUAL, 1000009, "time", 2, 999999);
    }

    private static SpotTimers stars(int... showsAndTrue) {
        SpotTimers x = new SpotTimers();
        x.station(0, 0);
        x.clock(0);
        for (int i = 0; i < showsAndTrue.length; i += 2) {
            x.reading(1, 0, 0, showsAndTrue[i], showsAndTrue[i + 1]);
        }
        return x;
    }

    private static void dueTimes(String what, SpotTimers x, int... showsAndDue) {
        for (int i = 0; i < showsAndDue.length; i += 2) {
            Due.due(what + ": " + showsAndDue[i], x.time(0, showsAndDue[i]), showsAndDue[i + 1]);
        }
    }

    private static void timeBesideStars() {
        dueTimes("one STAR, 999999 at 0", stars(0, 999999), 0, 999999, 1, 1000000, 999999, 1999998);
        dueTimes("one STAR, 0 at 999999", stars(999999, 0), 999999, 0, 999998, -1, 0, -999999);
        dueTimes("three STARS that rise, fall", stars(10, 10, 20, 31, 30, 28),
            9, 7, 10, 10, 11, 12, 19, 28, 20, 31, 21, 30, 29, 28, 30, 28, 31, 27, 40, 25);
        dueTimes("two that tell the same", stars(10, 7, 20, 7), 0, 7, 10, 7, 15, 7, 20, 7, 999999, 7);
        dueTimes("two that show the same: the latest", stars(10, 7, 10, 9), 0, -1, 10, 9, 20, 19);
        dueTimes("to 2000000", stars(0, 0, 2, 5), 799999, 1999997, 800000, 2000000, 800001, Due.NO);
        dueTimes("to -2000000", stars(0, 5, 2, 0), 800001, -1999998, 800002, -2000000, 800003, Due.NO);
        dueTimes("to -2000000 ahead of the first", stars(999998, 0, 999999, 4), 499998, -2000000, 499997, Due.NO);
        dueTimes("to 2000000 by 4", stars(0, 1, 1, 5), 499999, 1999997, 500000, Due.NO);
        dueTimes("2000001", stars(0, 0, 1, 3), 666667, Due.NO, 666666, 1999998);
        dueTimes("-2000001", stars(0, 3, 1, 0), 666668, Due.NO, 666667, -1999998);
        dueTimes("to 2000000 ahead of the first", stars(999998, 4, 999999, 0), 499999, 2000000, 499998, Due.NO);
        SpotTimers x = stars(10, 7, 20, 30, 20, 40);
        dueTimes("the latest told of 20", x, 20, 40);
        x.withdraw(2);
        dueTimes("that WITHDRAWN", x, 20, 30);
        x.withdraw(1);
        dueTimes("both WITHDRAWN", x, 20, 17);
        x.withdraw(0);
        dueTimes("all WITHDRAWN", x, 20, Due.NO);
        x.copied(0, 10);
        dueTimes("a COPIED STAR", x, 20, Due.NO);
    }

    // ---- 12

    private static void longitude() {
        for (int station : Twins.outside(0, 2)) {
            Twins.same(Twins.USUAL, Due.NO, "longitude", station);
        }
        for (int station : Twins.outside(0, 10)) {
            Twins.same(Twins.FULL, Due.NO, "longitude", station);
        }
        Twins.same(Twins.USUAL, 100, "longitude", 0);
        Twins.same(Twins.USUAL, 110, "longitude", 1);
        Twins.same(Twins.USUAL, -7, "longitude", 2);
        Twins.same(Twins.FULL, Due.NO, "longitude", 10);
        Twins.same(Twins.then(Twins.USUAL, "withdraw", 4), Due.NO, "longitude", 1);
        Twins.same(Twins.then(Twins.USUAL, "withdraw", 3), Due.NO, "longitude", 1);
        Twins.same(Twins.then(Twins.USUAL, "stop", 2, 299), Due.NO, "longitude", 1);
        Twins.same(Twins.then(Twins.USUAL, "stop", 2, 300), 110, "longitude", 1);
        Twins.same(Twins.then(Twins.USUAL, "reading", 2, 2, 0, 300, 199), 110, "longitude", 1);
        Twins.same(Twins.then(Twins.USUAL, "reading", 2, 2, 0, 0, 999999), -499940, "longitude", 1);
        Twins.same(Twins.then(Twins.USUAL, "reading", 2, 0, 0, 300, 0), 100, "longitude", 0);
        SpotTimers x = new SpotTimers();
        x.station(99999, 0);
        x.clock(0);
        x.reading(1, 0, 0, 0, 0);
        x.reading(2, 0, 0, 10, 11);
        Due.due("one MOON", x.longitude(0), -1);
        x.reading(2, 0, 0, 10, 10);
        Due.due("the mean of -1 and 0, cut down", x.longitude(0), -1);
        x.reading(2, 0, 0, 10, 8);
        Due.due("the mean of -1, 0 and 2, cut down", x.longitude(0), 0);
        x.reading(2, 0, 0, 10, 8);
        Due.due("the mean of -1, 0, 2 and 2, cut down", x.longitude(0), 0);
        x.reading(2, 0, 0, 10, 8);
        Due.due("the mean of -1, 0, 2, 2 and 2", x.longitude(0), 1);
    }

    // ---- 13

    private static void seen() {
        for (int reading : NO_USUAL_READINGS) {
            Twins.same(Twins.USUAL, Due.NO, "seen", reading, 0);
        }
        for (int end : Twins.outside(0, 1)) {
            for (int reading = 0; reading <= 14; reading++) {
                Twins.same(Twins.USUAL, Due.NO, "seen", reading, end);
            }
        }
        int[] firsts = {Due.NO, Due.NO, Due.NO, Due.NO, Due.NO, 268, 323, 218, 198, 325, 268, 310, 279, 311, -51};
        for (int reading = 0; reading <= 14; reading++) {
            Twins.same(Twins.USUAL, firsts[reading], "seen", reading, 0);
            Twins.same(Twins.USUAL, reading == 6 ? 335 : Due.NO, "seen", reading, 1);
        }
        Supplier<SpotTimers> stopped = Twins.then(Twins.USUAL, "stop", 0, 352);
        // The STAR that shows 400 counts no longer: the other one alone tells the TRUE TIME.
        Twins.same(stopped, 298, "seen", 6, 0);
        Twins.same(stopped, Due.NO, "seen", 6, 1);
        Twins.same(stopped, 300, "seen", 9, 0);
        Twins.same(Twins.then(Twins.USUAL, "stop", 0, 351), Due.NO, "seen", 9, 0);
        Twins.same(Twins.then(Twins.USUAL, "stop", 0, 361), 309, "seen", 6, 1);
        Twins.same(Twins.then(Twins.USUAL, "stop", 0, 400), 335, "seen", 6, 1);
        Supplier<SpotTimers> star = Twins.then(Twins.USUAL, "copied", 0, 100);
        Twins.same(star, Due.NO, "seen", 15, 0);
        Supplier<SpotTimers> moon = Twins.then(Twins.USUAL, "copied", 4, 100);
        Twins.same(moon, Due.NO, "seen", 15, 0);
        Supplier<SpotTimers> plate = Twins.then(Twins.then(Twins.USUAL, "withdraw", 7), "copied", 7, 301);
        Twins.same(plate, 219, "seen", 15, 0);
        Twins.same(plate, 218, "seen", 7, 0);
        Twins.same(Twins.then(Twins.USUAL, "withdraw", 4), Due.NO, "seen", 11, 0);
        Twins.same(Twins.then(Twins.USUAL, "withdraw", 4), Due.NO, "seen", 13, 0);
    }

    private static void seenByHeight() {
        int[] heights = {0, 1, 99, 100, 101, 199, 200, 3999, 4000};
        int[] less = {0, 0, 0, 1, 1, 1, 2, 39, 40};
        for (int i = 0; i < heights.length; i++) {
            SpotTimers x = new SpotTimers();
            x.station(-43200, heights[i]);
            x.clock(0);
            x.reading(1, 0, 0, 0, 0);
            x.reading(3, 0, 0, 5, 1);
            Due.due("SEEN from a HEIGHT of " + heights[i], x.seen(1, 0), 43205 - less[i]);
        }
    }

    // ---- 14

    private static void like() {
        for (int reading : NO_USUAL_READINGS) {
            Twins.same(Twins.USUAL, Due.NONE, "like", reading);
        }
        for (int reading : new int[] {0, 4, 5, 6, 7, 12, 14}) {
            Twins.same(Twins.USUAL, Due.CAST, "like", reading);
        }
        Twins.same(Twins.USUAL, 0, "like", 9);
        Twins.same(Twins.USUAL, 1, "like", 10);
        Twins.same(Twins.USUAL, 0, "like", 13);
        for (int shows : new int[] {349, 351, 361}) {
            Twins.same(Twins.then(Twins.USUAL, "copied", 6, shows), 0, "like", 15);
        }
        Twins.same(Twins.then(Twins.USUAL, "copied", 6, 350), 1, "like", 15);
        Twins.same(Twins.then(Twins.USUAL, "copied", 12, 310), 1, "like", 15);
    }

    // ---- 15

    private static void book() {
        for (int clock : Twins.outside(0, 3)) {
            Twins.same(Twins.USUAL, Due.NONE, "book", clock, 0, 1, 3, 0, 1);
            Twins.same(Twins.USUAL, Due.NONE, "book", clock, 0, 0, 0, 0, 0);
        }
        for (int hand : NO_HANDS) {
            Twins.same(Twins.USUAL, Due.NONE, "book", 0, hand, 1, 3, 0, 1);
            Twins.same(Twins.USUAL, Due.NONE, "book", 0, hand, 5, 0, 0, 1);
        }
        for (int tape : Twins.outside(0, 5)) {
            Twins.same(Twins.USUAL, Due.NONE, "book", 0, 0, 1, tape, 0, 1);
            Twins.same(Twins.USUAL, Due.NONE, "book", 0, 0, 1, tape, 0, 41);
        }
        for (int first : NO_EDGES) {
            Twins.same(Twins.USUAL, Due.BAD, "book", 0, 0, first, 3, 0, 1);
            Twins.same(Twins.USUAL, Due.BAD, "book", 0, 0, first, 0, 0, 1);
        }
        for (int n : Twins.outside(1, 40)) {
            Twins.same(Twins.USUAL, Due.BAD, "book", 0, 0, 1, 3, 0, n);
            Twins.same(Twins.USUAL, Due.BAD, "book", 0, 0, 1, 2, 0, n);
            Twins.same(Twins.FULL, Due.BAD, "book", 0, 0, 1, 3, 0, n);
        }
        for (int tape = 0; tape <= 2; tape++) {
            Twins.same(Twins.USUAL, Due.CAST, "book", 0, 0, 1, tape, 0, 1);
            Twins.same(Twins.USUAL, Due.CAST, "book", 0, 0, 1, tape, -1, 40);
        }
        for (int sort = 0; sort <= 2; sort++) {
            Twins.same(Twins.then(Twins.USUAL, "tape", 5, sort, 0), Due.CAST, "book", 0, 0, 1, 5, 0, 1);
        }
        dueBook(3, 5, 1, 1, 0);
        dueBook(3, 1, 1, 1, 0);
        dueBook(3, 1, 5, 4, 0);
        dueBook(3, 1, 6, 4, 2);
        dueBook(3, 2, 1, 0, 0);
        dueBook(3, 0, 1, 0, 3);
        dueBook(3, 0, 40, 0, 3);
        dueBook(3, 6, 1, 0, 2);
        dueBook(3, -1, 1, 0, 2);
        dueBook(3, -1, 40, 0, 2);
        dueBook(3, Integer.MAX_VALUE, 40, 0, 2);
        dueBook(3, Integer.MIN_VALUE, 40, 0, 2);
        dueBook(4, 0, 1, 0, 1);
        dueBook(4, -1, 40, 0, 1);
        dueBook(5, 0, 1, 0, 2);
        for (int first = 1; first <= 4; first++) {
            Supplier<SpotTimers> told = Twins.then(Twins.USUAL, "book", 0, 5, first, 3, 1, 5);
            // The second place is blank: nothing comes of it, and the NUMBER goes on.
            int[] numbers = {first, (first + 1) % 4 + 1, (first + 2) % 4 + 1, (first + 3) % 4 + 1};
            for (int k = 0; k < 4; k++) {
                Twins.same(told, numbers[k], "of", 15 + k, 5);
                Twins.same(told, 3, "of", 15 + k, 1);
                Twins.same(told, 5, "of", 15 + k, 3);
            }
        }
    }

    private static void dueBook(int tape, int i, int n, int came, int ended) {
        Twins.answers(Twins.USUAL, came, "book", 0, 0, 1, tape, i, n);
        Supplier<SpotTimers> then = Twins.then(Twins.USUAL, "book", 0, 0, 1, tape, i, n);
        Twins.same(then, ended, "ended");
        Twins.same(then, 15 + came, "count", 3);
    }

    private static void bookTimes() {
        int[] eighths = {-8000000, -8, -1, 0, 1, 7, 8, 15, 16, 7999992, 7999999, 8000000};
        int[] shows = {-1, -1, -1, 0, 0, 0, 1, 1, 2, 999999, 999999, -1};
        for (int i = 0; i < eighths.length; i++) {
            SpotTimers x = make(Twins.USUAL);
            x.item(3, 0, eighths[i]);
            Due.due("a BOOK of " + eighths[i] + " eighths", x.book(0, 0, 1, 3, 0, 1), shows[i] < 0 ? 0 : 1);
            Due.due("it ended", x.ended(), shows[i] < 0 ? 3 : 0);
            Due.due("it shows", x.of(15, 4), shows[i] < 0 ? Due.NO : shows[i]);
        }
    }

    private static void bookRoom() {
        SpotTimers x = Due.trueClock();
        x.tape(0, 3, 60);
        Due.due("40", x.book(0, 0, 1, 0, 0, 40), 40);
        Due.due("40 more", x.book(0, 0, 1, 0, 20, 40), 40);
        Due.due("9 more", x.book(0, 0, 1, 0, 51, 9), 9);
        Due.due("all its numbers came", x.ended(), 0);
        Due.due("READINGS", x.count(3), 90);
        Due.due("none more", x.book(0, 0, 1, 0, 0, 1), 0);
        Due.due("no room", x.ended(), 4);
        SpotTimers y = Due.trueClock();
        y.tape(0, 3, 60);
        y.book(0, 0, 1, 0, 0, 40);
        y.book(0, 0, 1, 0, 0, 40);
        Due.due("9 of 10", y.book(0, 0, 1, 0, 0, 10), 9);
        Due.due("no room for the 10th", y.ended(), 4);
        Due.due("the last that came", y.of(89, 5), 1);
        for (int n = 1; n <= 40; n += 39) {
            Due.due("full, NOTHING", x.book(0, 0, 1, 1, 0, n), 0);
            Due.due("full, ended NOTHING", x.ended(), 1);
            Due.due("full, PLACE", x.book(0, 0, 1, 0, 60, n), 0);
            Due.due("full, ended PLACE", x.ended(), 2);
            x.item(0, 59, -1);
            Due.due("full, no time", x.book(0, 0, 1, 0, 59, n), 0);
            Due.due("full, ended no time", x.ended(), 3);
        }
        for (int i = 0; i < 60; i++) {
            x.blank(0, i);
        }
        Due.due("full, 40 not seen", x.book(0, 0, 1, 0, 20, 40), 0);
        Due.due("full, all of them", x.ended(), 0);
        Due.due("full, 21 of 40", x.book(0, 0, 1, 0, 39, 40), 0);
        Due.due("full, ended PLACE", x.ended(), 2);
    }

    // ---- 16

    private static void ended() {
        Twins.same(Twins.NEW, Due.STATE, "ended");
        Twins.same(Twins.USUAL, 2, "ended");
        Twins.same(Twins.FULL, 0, "ended");
        Supplier<SpotTimers> refused = Twins.then(Twins.NEW, "station", 0, 0);
        refused = Twins.then(refused, "clock", 0);
        refused = Twins.then(refused, "tape", 0, 2, 5);
        Supplier<SpotTimers> none = Twins.then(refused, "book", 0, 0, 1, 6, 0, 1);
        Supplier<SpotTimers> bad = Twins.then(refused, "book", 0, 0, 1, 1, 0, 41);
        Supplier<SpotTimers> cast = Twins.then(refused, "book", 0, 0, 1, 0, 0, 1);
        Twins.same(none, Due.STATE, "ended");
        Twins.same(bad, Due.STATE, "ended");
        Twins.same(cast, Due.STATE, "ended");
        Twins.same(Twins.then(cast, "book", 0, 0, 1, 1, 0, 1), 1, "ended");
    }
}
