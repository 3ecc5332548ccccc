import java.util.function.Supplier;

/**
 * Promises 31 to 44 at their bounds: places, clocks side by side, acts, kinds, counts, tapes; the last value that is
 * taken and the first that is refused, the first refusal that the words name, and that a refused call changes nothing.
 */
public final class TapeBoundsTest {
    private static final int[] NO_TAPES = Twins.outside(0, 5);
    private static final int[] NO_USUAL_READINGS = Twins.outside(0, 14);
    private static final int[] SIZES = {4, 3, 6, 6};

    public static void main(String[] args) {
        place();
        go();
        goCosts();
        goOfSeveral();
        lost();
        difference();
        beside();
        besideOfSeveral();
        act();
        trace();
        taken();
        count();
        tape();
        item();
        itemValues();
        blank();
        read();
        shift();
        shiftPlaces();
        shiftAsBefore();
        Due.end("TapeBoundsTest");
    }

    // ---- 31

    private static void place() {
        for (int lever : Twins.outside(-99, 99)) {
            Twins.same(Twins.USUAL, Due.BAD, "place", lever, 0, 0);
            Twins.same(Twins.FULL, Due.BAD, "place", lever, 0, 0);
        }
        for (int chance : Twins.outside(0, 100)) {
            Twins.same(Twins.USUAL, Due.BAD, "place", 0, chance, 0);
            Twins.same(Twins.FULL, Due.BAD, "place", 0, chance, 0);
        }
        for (int cost : Twins.outside(0, 99)) {
            Twins.same(Twins.USUAL, Due.BAD, "place", 0, 0, cost);
            Twins.same(Twins.FULL, Due.BAD, "place", 0, 0, cost);
        }
        for (int lever : new int[] {-99, 0, 99}) {
            for (int chance : new int[] {0, 100}) {
                for (int cost : new int[] {0, 99}) {
                    Twins.answers(Twins.USUAL, 4, "place", lever, chance, cost);
                    Twins.same(Twins.FULL, Due.FULL, "place", lever, chance, cost);
                    Supplier<SpotTimers> one = Twins.then(Twins.NEW, "place", lever, chance, cost);
                    Twins.same(one, chance * lever * lever, "go", 1, 400, 0);
                    Twins.same(one, cost, "go", 1, 400, 2);
                }
            }
        }
        SpotTimers x = new SpotTimers();
        for (int i = 0; i <= 8; i++) {
            Due.due("PLACE " + i, x.place(i, 1, 0), i);
        }
        Due.due("a PLACE more", x.place(0, 0, 0), Due.FULL);
        Due.due("PLACES", x.count(7), 9);
        Due.due("the best is the last", x.go(1, 0, 1), 256);
    }

    // ---- 32

    private static void go() {
        for (int what : Twins.outside(0, 2)) {
            Twins.same(Twins.USUAL, Due.NONE, "go", 1, 400, what);
            Twins.same(Twins.USUAL, Due.NONE, "go", 0, 401, what);
        }
        for (int what = 0; what <= 2; what++) {
            for (int many : Twins.outside(1, 5)) {
                Twins.same(Twins.USUAL, Due.BAD, "go", many, 400, what);
            }
            for (int costs : Twins.outside(0, 400)) {
                Twins.same(Twins.USUAL, Due.BAD, "go", 1, costs, what);
                Twins.same(Twins.NEW, Due.BAD, "go", 1, costs, what);
            }
            Twins.same(Twins.USUAL, Due.STATE, "go", 5, 400, what);
            Twins.same(Twins.USUAL, Due.STATE, "go", 1, 0, what);
            Twins.same(Twins.NEW, Due.STATE, "go", 1, 400, what);
        }
        // PLACES of 5000 for 5, 12000 for 9, 2500 for 1, 1800 for 3.
        int[][] want = {
            {1, 400, 12000, 2, 9}, {1, 9, 12000, 2, 9}, {1, 8, 5000, 1, 5}, {1, 5, 5000, 1, 5}, {1, 4, 2500, 4, 1},
            {1, 1, 2500, 4, 1}, {2, 14, 17000, 3, 14}, {2, 13, 14500, 6, 10}, {2, 9, 7500, 5, 6}, {2, 4, 4300, 12, 4},
            {3, 18, 19500, 7, 15}, {3, 14, 16300, 14, 13}, {4, 18, 21300, 15, 18}};
        for (int[] w : want) {
            for (int what = 0; what <= 2; what++) {
                Twins.same(Twins.USUAL, w[2 + what], "go", w[0], w[1], what);
            }
        }
        for (int what = 0; what <= 2; what++) {
            Twins.same(Twins.USUAL, Due.STATE, "go", 4, 17, what);
            Twins.same(Twins.USUAL, Due.STATE, "go", 2, 3, what);
        }
        Twins.same(Twins.FULL, 1000 * (64 + 49 + 36 + 25 + 16), "go", 5, 400, 0);
        Twins.same(Twins.FULL, 31 * 16, "go", 5, 400, 1);
    }

    private static void goCosts() {
        SpotTimers x = new SpotTimers();
        for (int i = 0; i < 5; i++) {
            x.place(1, 1, i == 0 ? 4 : 99);
        }
        Due.due("COSTS of 400 and no more", x.go(5, 400, 2), 400);
        Due.due("COSTS of 400 for 399", x.go(5, 399, 2), Due.STATE);
        SpotTimers y = new SpotTimers();
        y.place(0, 0, 0);
        Due.due("COSTS of 0", y.go(1, 0, 2), 0);
        Due.due("a WORTH of 0", y.go(1, 0, 0), 0);
        Due.due("the set", y.go(1, 0, 1), 1);
        Due.due("two of one", y.go(2, 400, 1), Due.STATE);
    }

    private static void goOfSeveral() {
        SpotTimers x = new SpotTimers();
        x.place(2, 9, 5);
        x.place(-6, 1, 4);
        x.place(3, 4, 4);
        x.place(6, 1, 5);
        Due.due("of WORTH 36 the least COST, of these the least bits", x.go(1, 400, 1), 2);
        Due.due("two of WORTH 72", x.go(2, 400, 1), 6);
        Due.due("three: the dear ones alike, the least bits", x.go(3, 400, 1), 7);
        Due.due("more WORTH is ahead of less COST", x.go(3, 400, 0), 108);
        x.place(7, 1, 99);
        Due.due("the most WORTH, whatever the COST", x.go(1, 400, 1), 16);
        Due.due("but for the sum of COSTS", x.go(1, 98, 1), 2);
    }

    // ---- 33

    private static void lost() {
        for (int place : Twins.outside(0, 3)) {
            Twins.same(Twins.USUAL, Due.NONE, "lost", 1, 400, place);
            Twins.same(Twins.USUAL, Due.NONE, "lost", 0, 401, place);
        }
        for (int place : Twins.outside(0, 8)) {
            Twins.same(Twins.FULL, Due.NONE, "lost", 1, 400, place);
        }
        for (int many : Twins.outside(1, 5)) {
            Twins.same(Twins.USUAL, Due.BAD, "lost", many, 400, 0);
        }
        for (int costs : Twins.outside(0, 400)) {
            Twins.same(Twins.USUAL, Due.BAD, "lost", 1, costs, 3);
        }
        Twins.same(Twins.USUAL, Due.STATE, "lost", 5, 400, 0);
        Twins.same(Twins.USUAL, Due.STATE, "lost", 1, 0, 0);
        Twins.same(Twins.USUAL, Due.STATE, "lost", 4, 400, 0);
        Twins.same(Twins.USUAL, Due.STATE, "lost", 1, 2, 2);
        Twins.same(Twins.USUAL, 700, "lost", 1, 3, 2);
        Twins.same(Twins.USUAL, 0, "lost", 1, 3, 3);
        Twins.same(Twins.USUAL, 7000, "lost", 1, 400, 1);
        Twins.same(Twins.USUAL, 0, "lost", 1, 400, 0);
        Twins.same(Twins.USUAL, 0, "lost", 3, 400, 3);
        Twins.same(Twins.USUAL, 19500 - 9300, "lost", 3, 400, 1);
        Twins.same(Twins.FULL, 64000 - 9000, "lost", 5, 400, 8);
        Twins.same(Twins.FULL, 0, "lost", 5, 400, 0);
    }

    // ---- 34

    private static void difference() {
        for (int reading : NO_USUAL_READINGS) {
            Twins.same(Twins.USUAL, Due.FAR, "difference", reading, 5);
            Twins.same(Twins.USUAL, Due.FAR, "difference", 5, reading);
            Twins.same(Twins.USUAL, Due.FAR, "difference", reading, reading);
        }
        Twins.same(Twins.USUAL, 70, "difference", 5, 8);
        Twins.same(Twins.USUAL, -70, "difference", 8, 5);
        for (int other : new int[] {0, 1, 2, 3, 4, 5, 6, 7, 9, 10, 11, 12, 13, 14}) {
            Twins.same(Twins.USUAL, Due.FAR, "difference", 5, other);
            Twins.same(Twins.USUAL, Due.FAR, "difference", other, 5);
        }
        Twins.same(Twins.then(Twins.USUAL, "withdraw", 8), Due.FAR, "difference", 5, 8);
        Twins.same(Twins.then(Twins.USUAL, "withdraw", 5), Due.FAR, "difference", 5, 8);
        Twins.same(Twins.then(Twins.USUAL, "withdraw", 2), Due.FAR, "difference", 5, 8);
        Twins.same(Twins.then(Twins.USUAL, "reading", 3, 1, 0, 290, 2), Due.FAR, "difference", 5, 15);
        Twins.same(Twins.then(Twins.USUAL, "reading", 3, 1, 1, 290, 1), Due.FAR, "difference", 5, 15);
        Twins.same(Twins.then(Twins.USUAL, "reading", 3, 2, 0, 290, 1), Due.FAR, "difference", 5, 15);
        Twins.same(Twins.then(Twins.USUAL, "reading", 3, 0, 0, 290, 1), Due.FAR, "difference", 5, 15);
        Twins.same(Twins.then(Twins.USUAL, "reading", 5, 1, 0, 290, 1500), Due.FAR, "difference", 5, 15);
        Supplier<SpotTimers> blur = Twins.then(Twins.USUAL, "reading", 4, 1, 0, 600, 601);
        Twins.same(blur, 268 - 508, "difference", 5, 15);
        Twins.same(blur, 508 - 268, "difference", 15, 5);
        Twins.same(Twins.then(blur, "number", 15, 2), Due.FAR, "difference", 5, 15);
        Twins.same(Twins.then(Twins.USUAL, "reading", 3, 1, 0, 601, 1), Due.FAR, "difference", 5, 15);
    }

    // ---- 35

    private static void beside() {
        for (int clock : Twins.outside(0, 3)) {
            Twins.same(Twins.USUAL, Due.NONE, "beside", clock);
        }
        for (int clock : new int[] {0, 2, 3}) {
            Twins.same(Twins.USUAL, Due.STATE, "beside", clock);
        }
        Twins.same(Twins.USUAL, 0, "beside", 1);
        Twins.same(Twins.then(Twins.USUAL, "stop", 0, 0), 1, "beside", 0);
        Twins.same(Twins.then(Twins.USUAL, "stop", 3, 0), Due.NONE, "beside", 3);
        Twins.same(Twins.then(Twins.USUAL, "stop", 2, 0), Due.NONE, "beside", 2);
        Twins.same(Twins.then(Twins.USUAL, "withdraw", 8), Due.NONE, "beside", 1);
        Twins.same(Twins.then(Twins.USUAL, "withdraw", 5), Due.NONE, "beside", 1);
    }

    private static void besideOfSeveral() {
        SpotTimers x = new SpotTimers();
        x.station(99999, 0);
        x.station(0, 0);
        for (int clock = 0; clock <= 4; clock++) {
            x.clock(clock == 4 ? 1 : 0);
        }
        x.stop(1, 0);
        x.reading(3, 1, 0, 5, 1);
        x.reading(3, 1, 0, 6, 1);
        x.reading(3, 4, 0, 5, 1);
        Due.due("another STATION's", x.beside(1), Due.NONE);
        x.reading(3, 3, 0, 5, 1);
        Due.due("two twos, without any SEEN", x.beside(1), 3);
        x.reading(4, 2, 0, 5, 7);
        Due.due("of several the least", x.beside(1), 2);
        x.reading(3, 3, 0, 7, 1);
        Due.due("four twos", x.beside(1), 3);
        x.reading(5, 2, 0, 7, 1500);
        x.reading(5, 2, 0, 7, 1500);
        x.copied(0, 5);
        Due.due("PLATES are not JOINED", x.beside(1), 3);
        x.reading(3, 0, 0, 7, 1);
        x.reading(3, 0, 0, 7, 1);
        Due.due("CLOCK 0 is the least", x.beside(1), 0);
    }

    // ---- 36

    private static void act() {
        for (int reading : NO_USUAL_READINGS) {
            dueNoTrace(reading, 0);
        }
        for (int act : Twins.outside(0, 2)) {
            dueNoTrace(6, act);
            dueNoTrace(15, act);
        }
        int[][] want = {
            {1, 0, 5, (5 + 1) ^ 1}, {1, 1, 5, ((5 + 1) ^ 1) * 2}, {1, 2, 5, ((5 + 1) ^ 1) * 2 - 1},
            {4, 1, 5, 9 * 2 + 6}, {5, 2, 5, -20}, {6, 0, 5, 14}, {6, 2, 5, -(28 - 1) + 5}, {7, 1, 5, 24 ^ 5},
            {9, 0, 5, 42}, {9, 2, 5, 84 - 1}, {12, 0, 5, 17}, {12, 2, 5, 17 - 34}, {13, 2, 5, 18 - (36 - 2)}};
        for (int[] w : want) {
            Twins.answers(Twins.USUAL, w[3], "act", w[0], w[1], w[2]);
        }
        for (int x : new int[] {Integer.MAX_VALUE, Integer.MIN_VALUE, 1 << 30, -1}) {
            Twins.answers(Twins.USUAL, (x + 14) * 2, "act", 14, 1, x);
            Twins.answers(Twins.USUAL, (x + 9) * 6, "act", 9, 1, x);
            Twins.answers(Twins.USUAL, x + 12 - (x + 12) * 2, "act", 12, 2, x);
            Twins.answers(Twins.USUAL, (x + 7) * 2 ^ x, "act", 7, 1, x);
        }
    }

    private static void dueNoTrace(int reading, int act) {
        SpotTimers x = Twins.USUAL.get();
        Due.due("bodies of the act ahead", x.count(8), 6);
        Due.due("no such act", x.act(reading, act, 5), 0);
        Due.due("no bodies", x.count(8), 0);
        for (int i = 0; i <= 7; i++) {
            Due.due("no TRACE", x.trace(i), Due.NONE);
        }
    }

    // ---- 37

    private static void trace() {
        int[] want = {51, 40, 12, 11, 50, 10};
        for (int i = 0; i < want.length; i++) {
            Twins.same(Twins.USUAL, want[i], "trace", i);
        }
        for (int i : new int[] {-1, 6, 19, 20, 21, Integer.MIN_VALUE, Integer.MAX_VALUE}) {
            Twins.same(Twins.USUAL, Due.NONE, "trace", i);
        }
        SpotTimers x = Twins.USUAL.get();
        x.act(5, 0, 1);
        Due.due("a shorter TRACE", x.trace(0), 10);
        Due.due("what was behind it is gone", x.trace(1), Due.NONE);
        Twins.same(Twins.NEW, Due.NONE, "trace", 0);
    }

    // ---- 38

    private static void taken() {
        for (int k : Twins.outside(0, 7)) {
            Twins.same(Twins.USUAL, Due.BAD, "taken", 0, k);
            Twins.same(Twins.USUAL, Due.BAD, "taken", 15, k);
        }
        for (int reading : NO_USUAL_READINGS) {
            for (int k = 0; k <= 7; k++) {
                Twins.same(Twins.USUAL, Due.NOTHING, "taken", reading, k);
            }
        }
        int[] readings = {0, 4, 5, 6, 7, 9, 12, 13};
        int[] kinds = {1, 2, 3, 4, 5, 6, 7, 7};
        for (int i = 0; i < readings.length; i++) {
            for (int k = 0; k <= 7; k++) {
                boolean fits = k == 0 || k == kinds[i] || kinds[i] == 4 && k == 3;
                Twins.same(Twins.USUAL, fits ? kinds[i] : Due.CAST, "taken", readings[i], k);
            }
        }
        Twins.same(Twins.then(Twins.USUAL, "withdraw", 6), Due.CAST, "taken", 6, 3);
        Twins.same(Twins.then(Twins.USUAL, "withdraw", 6), 7, "taken", 6, 0);
    }

    // ---- 39

    private static void count() {
        int[] usual = {3, 3, 4, 15, 4, 2, 2, 4, 6};
        int[] full = {9999, 11, 12, 90, 60, 12, 140, 9, 0};
        for (int what = 0; what <= 8; what++) {
            Twins.same(Twins.NEW, 0, "count", what);
            Twins.same(Twins.USUAL, usual[what], "count", what);
            Twins.same(Twins.FULL, full[what], "count", what);
        }
        for (int what : Twins.outside(0, 8)) {
            Twins.same(Twins.USUAL, Due.BAD, "count", what);
        }
    }

    // ---- 40

    private static void tape() {
        for (int tape : NO_TAPES) {
            Twins.same(Twins.USUAL, Due.NONE, "tape", tape, 0, 1);
            Twins.same(Twins.USUAL, Due.NONE, "tape", tape, 4, 61);
        }
        for (int sort : Twins.outside(-1, 3)) {
            Twins.same(Twins.USUAL, Due.BAD, "tape", 3, sort, 1);
            Twins.same(Twins.USUAL, Due.BAD, "tape", 3, sort, -1);
            Twins.same(Twins.USUAL, Due.BAD, "tape", 3, sort, 61);
        }
        for (int sort = 0; sort <= 3; sort++) {
            for (int n : new int[] {61, Integer.MAX_VALUE}) {
                Twins.same(Twins.USUAL, Due.BAD, "tape", 3, sort, n);
            }
            for (int n : new int[] {-1, Integer.MIN_VALUE}) {
                Twins.same(Twins.USUAL, Due.SIZE, "tape", 3, sort, n);
            }
            for (int n : new int[] {0, 1, 59, 60}) {
                for (int tape = 0; tape <= 5; tape++) {
                    Twins.answers(Twins.USUAL, 1, "tape", tape, sort, n);
                    Supplier<SpotTimers> row = Twins.then(Twins.USUAL, "tape", tape, sort, n);
                    Twins.same(row, n > 0 ? 0 : Due.NO, "read", tape, 0);
                    Twins.same(row, n > 0 ? 0 : Due.NO, "read", tape, n - 1);
                    Twins.same(row, Due.NO, "read", tape, n);
                    Twins.same(row, Due.PLACE, "item", tape, n, 1);
                    for (int i = 0; i < Math.min(n, 6); i++) {
                        Due.due("all are 0", row.get().read(tape, i), 0);
                    }
                }
            }
        }
        for (int n : new int[] {-1, 0, 60, 61, Integer.MIN_VALUE, Integer.MAX_VALUE}) {
            for (int tape = 0; tape <= 5; tape++) {
                Twins.answers(Twins.USUAL, 1, "tape", tape, -1, n);
                Supplier<SpotTimers> nothing = Twins.then(Twins.USUAL, "tape", tape, -1, n);
                Twins.same(nothing, Due.NOTHING, "item", tape, 0, 1);
                Twins.same(nothing, Due.NO, "read", tape, 0);
            }
        }
    }

    // ---- 41

    private static void item() {
        for (int tape : NO_TAPES) {
            Twins.same(Twins.USUAL, Due.NONE, "item", tape, 0, 1);
            Twins.same(Twins.USUAL, Due.NONE, "item", tape, -1, 8000001);
        }
        for (int i : new int[] {-1, 0, 60}) {
            Twins.same(Twins.USUAL, Due.NOTHING, "item", 4, i, 1);
            Twins.same(Twins.USUAL, Due.NOTHING, "item", 4, i, 8000001);
        }
        for (int tape = 0; tape <= 3; tape++) {
            for (int i : Twins.outside(0, SIZES[tape] - 1)) {
                Twins.same(Twins.USUAL, Due.PLACE, "item", tape, i, 1);
                Twins.same(Twins.USUAL, Due.PLACE, "item", tape, i, 8000001);
            }
            for (int i : new int[] {0, SIZES[tape] - 1}) {
                Twins.answers(Twins.USUAL, 1, "item", tape, i, 77);
                Twins.same(Twins.then(Twins.USUAL, "item", tape, i, 77), 77, "read", tape, i);
            }
        }
        for (int i : new int[] {-1, 0, 1}) {
            Twins.same(Twins.USUAL, Due.PLACE, "item", 5, i, 1);
        }
        for (int v : Twins.outside(-8000000, 8000000)) {
            for (int i : new int[] {0, 2, 5}) {
                Twins.same(Twins.USUAL, Due.BAD, "item", 3, i, v);
            }
        }
    }

    private static void itemValues() {
        int[] vs = {0, 1, 127, 128, 129, 255, 256, 383, 384, -1, -128, -129, -256, 32767, 32768, 65535, 65536, -32768,
            -32769, 8000000, 8000001, -8000001, Integer.MAX_VALUE, Integer.MIN_VALUE};
        for (int v : vs) {
            Twins.same(Twins.then(Twins.USUAL, "item", 0, 3, v), (byte) v, "read", 0, 3);
            Twins.same(Twins.then(Twins.USUAL, "item", 1, 2, v), (short) v, "read", 1, 2);
            Twins.same(Twins.then(Twins.USUAL, "item", 2, 5, v), v, "read", 2, 5);
        }
        for (int v : new int[] {-8000000, -7999999, -9, -8, -7, -1, 0, 1, 7, 8, 9, 7999999, 8000000}) {
            Twins.same(Twins.then(Twins.USUAL, "item", 3, 5, v), v, "read", 3, 5);
            Twins.same(Twins.then(Twins.USUAL, "item", 3, 2, v), v, "read", 3, 2);
        }
    }

    // ---- 42

    private static void blank() {
        for (int tape : NO_TAPES) {
            Twins.same(Twins.USUAL, Due.NONE, "blank", tape, 0);
        }
        for (int i : new int[] {-1, 0, 60}) {
            Twins.same(Twins.USUAL, Due.NOTHING, "blank", 4, i);
        }
        for (int tape = 0; tape <= 2; tape++) {
            for (int i : new int[] {-1, 0, SIZES[tape] - 1, SIZES[tape]}) {
                Twins.same(Twins.USUAL, Due.CAST, "blank", tape, i);
            }
            Twins.same(Twins.then(Twins.USUAL, "tape", 5, tape, 0), Due.CAST, "blank", 5, 0);
        }
        for (int i : Twins.outside(0, 5)) {
            Twins.same(Twins.USUAL, Due.PLACE, "blank", 3, i);
        }
        Twins.same(Twins.USUAL, Due.PLACE, "blank", 5, 0);
        for (int i = 0; i <= 5; i++) {
            Twins.answers(Twins.USUAL, 1, "blank", 3, i);
            Twins.same(Twins.then(Twins.USUAL, "blank", 3, i), 999999999, "read", 3, i);
            Twins.answers(Twins.then(Twins.USUAL, "blank", 3, i), 1, "blank", 3, i);
            Twins.same(Twins.then(Twins.then(Twins.USUAL, "blank", 3, i), "item", 3, i, -5), -5, "read", 3, i);
        }
    }

    // ---- 43

    private static void read() {
        for (int tape : NO_TAPES) {
            Twins.same(Twins.USUAL, Due.NO, "read", tape, 0);
        }
        for (int i : new int[] {-1, 0, 59, 60, Integer.MIN_VALUE, Integer.MAX_VALUE}) {
            Twins.same(Twins.USUAL, Due.NO, "read", 4, i);
            Twins.same(Twins.USUAL, Due.NO, "read", 5, i);
        }
        for (int tape = 0; tape <= 3; tape++) {
            for (int i : Twins.outside(0, SIZES[tape] - 1)) {
                Twins.same(Twins.USUAL, Due.NO, "read", tape, i);
            }
            for (int i = 0; i < SIZES[tape]; i++) {
                int want = tape == 0 ? 200 - 256 + i : tape == 1 ? 40000 - 65536 + i : tape == 2 ? 1000000000 + i : 81 * i - 9;
                Twins.same(Twins.USUAL, tape == 3 && i == 2 ? 999999999 : want, "read", tape, i);
            }
        }
    }

    // ---- 44

    private static void shift() {
        for (int tape : NO_TAPES) {
            Twins.same(Twins.USUAL, Due.NONE, "shift", tape, 0, 3, 0, 1);
            Twins.same(Twins.USUAL, Due.NONE, "shift", 3, 0, tape, 0, 1);
            Twins.same(Twins.USUAL, Due.NONE, "shift", tape, -1, 4, -1, -1);
            Twins.same(Twins.USUAL, Due.NONE, "shift", 4, -1, tape, -1, -1);
        }
        for (int tape = 0; tape <= 5; tape++) {
            for (int n : new int[] {-1, 0, 1, 61}) {
                Twins.same(Twins.USUAL, Due.NOTHING, "shift", tape, 0, 4, 0, n);
                Twins.same(Twins.USUAL, Due.NOTHING, "shift", 4, -1, tape, 0, n);
            }
        }
        int[] sorts = {0, 1, 2, 3, -1, 3};
        for (int tape = 0; tape <= 5; tape++) {
            for (int other = 0; other <= 5; other++) {
                if (tape != 4 && other != 4 && sorts[tape] != sorts[other]) {
                    for (int n : new int[] {-1, 0, 1, 61}) {
                        Twins.same(Twins.USUAL, Due.CAST, "shift", tape, 0, other, 0, n);
                    }
                } else if (tape != 4 && other != 4) {
                    Twins.same(Twins.USUAL, 0, "shift", tape, 0, other, 0, 0);
                    Twins.same(Twins.USUAL, Due.PLACE, "shift", tape, 0, other, 0, -1);
                }
            }
        }
    }

    /** TAPE 0 of 10 ints, TAPE 1 of 8, each item unlike all others. */
    private static SpotTimers twoRows() {
        SpotTimers x = new SpotTimers();
        x.tape(0, 2, 10);
        x.tape(1, 2, 8);
        for (int i = 0; i < 10; i++) {
            x.item(0, i, 100 + i);
            x.item(1, i, 200 + i);
        }
        return x;
    }

    private static void shiftPlaces() {
        Supplier<SpotTimers> scene = TapeBoundsTest::twoRows;
        int[] all = {Integer.MIN_VALUE, -1, 0, 1, 2, 3, 5, 7, 8, 9, 10, 11, Integer.MAX_VALUE};
        for (int i : all) {
            for (int j : all) {
                for (int n : all) {
                    dueShift(scene, 0, i, 1, j, n);
                    dueShift(scene, 1, i, 0, j, n);
                    dueShift(scene, 0, i, 0, j, n);
                }
            }
        }
        // Beyond one end alone.
        Twins.same(scene, Due.PLACE, "shift", 0, 3, 1, 0, 8);
        Twins.same(scene, Due.PLACE, "shift", 0, 0, 1, 1, 8);
        Twins.same(scene, Due.PLACE, "shift", 1, 1, 0, 0, 8);
        Twins.same(scene, Due.PLACE, "shift", 1, 0, 0, 3, 8);
        Twins.same(scene, Due.PLACE, "shift", 0, 11, 1, 0, 0);
        Twins.same(scene, Due.PLACE, "shift", 0, 0, 1, 9, 0);
        Twins.same(scene, Due.PLACE, "shift", 0, -1, 1, 0, 0);
        Twins.same(scene, Due.PLACE, "shift", 0, 0, 1, -1, 0);
        Twins.same(scene, Due.PLACE, "shift", 0, 0, 1, 0, -1);
        Twins.same(scene, Due.PLACE, "shift", 0, Integer.MAX_VALUE, 1, 0, Integer.MAX_VALUE);
        Twins.same(scene, Due.PLACE, "shift", 0, 0, 1, Integer.MAX_VALUE, Integer.MAX_VALUE);
        Twins.same(scene, 0, "shift", 0, 10, 1, 8, 0);
    }

    private static void dueShift(Supplier<SpotTimers> scene, int tape, int i, int other, int j, int n) {
        SpotTimers x = scene.get();
        int[] rows = {10, 8};
        boolean fits = i >= 0 && j >= 0 && n >= 0 && (long) i + n <= rows[tape] && (long) j + n <= rows[other];
        Due.due("shift(" + tape + ", " + i + ", " + other + ", " + j + ", " + n + ")", x.shift(tape, i, other, j, n),
            fits ? n : Due.PLACE);
        for (int row = 0; row <= 1; row++) {
            for (int k = 0; k < rows[row]; k++) {
                boolean came = fits && row == other && k >= j && k < j + n;
                int want = came ? 100 + 100 * tape + i + k - j : 100 + 100 * row + k;
                Due.due("item " + k + " of TAPE " + row, x.read(row, k), want);
            }
        }
    }

    private static void shiftAsBefore() {
        for (int tape = 0; tape <= 3; tape++) {
            int last = SIZES[tape] - 1;
            SpotTimers up = Twins.USUAL.get();
            SpotTimers down = Twins.USUAL.get();
            Due.due("one up", up.shift(tape, 0, tape, 1, last), last);
            Due.due("one down", down.shift(tape, 1, tape, 0, last), last);
            SpotTimers was = Twins.USUAL.get();
            for (int i = 0; i <= last; i++) {
                Due.due("one up, item " + i, up.read(tape, i), was.read(tape, Math.max(0, i - 1)));
                Due.due("one down, item " + i, down.read(tape, i), was.read(tape, Math.min(last, i + 1)));
            }
        }
        SpotTimers x = Twins.USUAL.get();
        x.tape(5, 3, 3);
        Due.due("to another row of reals", x.shift(3, 1, 5, 0, 3), 3);
        Due.due("a real", x.read(5, 0), 72);
        Due.due("one that is no number", x.read(5, 1), 999999999);
        Due.due("where it was it stays", x.read(3, 2), 999999999);
    }
}
