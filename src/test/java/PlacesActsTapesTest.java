/** Promises 31 to 44: places, clocks side by side, acts, kinds, counts, tapes. */
public final class PlacesActsTapesTest {
    public static void main(String[] args) {
        place();
        goTies();
        goNearly();
        goEdges();
        difference();
        beside();
        acts();
        traces();
        taken();
        count();
        tape();
        itemAndRead();
        blank();
        shift();
        Due.end("PlacesActsTapesTest");
    }

    private static void place() {
        SpotTimers x = new SpotTimers();
        int[][] bad = {{-100, 0, 0}, {100, 0, 0}, {0, -1, 0}, {0, 101, 0}, {0, 0, -1}, {0, 0, 100}};
        for (int[] b : bad) {
            Due.due("a bad place", x.place(b[0], b[1], b[2]), Due.BAD);
        }
        Due.due("place(-99, 100, 99)", x.place(-99, 100, 99), 0);
        Due.due("place(99, 0, 0)", x.place(99, 0, 0), 1);
        for (int i = 2; i <= 8; i++) {
            Due.due("place " + i, x.place(i, 1, 1), i);
        }
        Due.due("a bad place more", x.place(0, 0, 100), Due.BAD);
        Due.due("a place more", x.place(0, 0, 0), Due.FULL);
        Due.due("count(7)", x.count(7), 9);
        Due.due("worth", x.go(1, 400, 0), 980100);
        Due.due("cost", x.go(1, 400, 2), 99);
    }

    private static void goTies() {
        SpotTimers x = new SpotTimers();
        x.place(10, 10, 9);
        x.place(-10, 10, 5);
        x.place(10, 10, 5);
        x.place(1, 0, 0);
        Due.due("the least cost", x.go(1, 400, 1), 2);
        Due.due("of two the least bits", x.go(1, 8, 1), 2);
        Due.due("its cost", x.go(1, 8, 2), 5);
        Due.due("two", x.go(2, 400, 1), 6);
        Due.due("two with 9: one of no worth", x.go(2, 9, 1), 10);
        Due.due("three", x.go(3, 14, 1), 14);
        Due.due("three with 19", x.go(3, 19, 1), 7);
        Due.due("three's worth", x.go(3, 19, 0), 3000);
        Due.due("lost of three", x.lost(3, 19, 0), 1000);
        Due.due("lost of one", x.lost(1, 400, 1), 0);
        Due.due("four", x.go(4, 19, 1), 15);
        Due.due("four with 18", x.go(4, 18, 0), Due.STATE);
    }

    private static void goNearly() {
        SpotTimers x = new SpotTimers();
        x.place(1, 8, 0);
        x.place(3, 1, 0);
        Due.due("a worth of 1 more", x.go(1, 0, 1), 2);
        Due.due("for nothing", x.go(1, 0, 2), 0);
        Due.due("lost", x.lost(1, 0, 1), 1);
    }

    private static void goEdges() {
        SpotTimers x = new SpotTimers();
        Due.due("without places", x.go(1, 400, 0), Due.STATE);
        Due.due("lost without places", x.lost(1, 400, 0), Due.NONE);
        x.place(0, 50, 3);
        Due.due("a worth of 0 is one", x.go(1, 3, 0), 0);
        Due.due("its set", x.go(1, 3, 1), 1);
        Due.due("too dear", x.go(1, 2, 1), Due.STATE);
        Due.due("what 3", x.go(0, 0, 3), Due.NONE);
        Due.due("what -1", x.go(0, 0, -1), Due.NONE);
        Due.due("many 0", x.go(0, 400, 0), Due.BAD);
        Due.due("many 6", x.go(6, 400, 0), Due.BAD);
        Due.due("costs -1", x.go(1, -1, 0), Due.BAD);
        Due.due("costs 401", x.go(1, 401, 0), Due.BAD);
        Due.due("lost, place 1", x.lost(0, 0, 1), Due.NONE);
        Due.due("lost, place -1", x.lost(1, 0, -1), Due.NONE);
        Due.due("lost, many 0", x.lost(0, 0, 0), Due.BAD);
        Due.due("lost, many 6", x.lost(6, 0, 0), Due.BAD);
        Due.due("lost, costs 401", x.lost(1, 401, 0), Due.BAD);
        Due.due("lost, costs -1", x.lost(1, -1, 0), Due.BAD);
        Due.due("lost, too dear", x.lost(1, 2, 0), Due.STATE);
        Due.due("lost, none without it", x.lost(1, 400, 0), Due.STATE);
        x.place(5, 10, 400 - 301);
        Due.due("lost", x.lost(1, 99, 1), 250);
        Due.due("lost of the other", x.lost(1, 99, 0), 0);
        for (int i = 0; i < 7; i++) {
            x.place(2, 100, 99);
        }
        Due.due("five of nine", x.go(5, 400, 1), 1 + 4 + 8 + 16 + 32);
        Due.due("five of nine cost", x.go(5, 399, 2), 399);
        Due.due("five of nine, too dear", x.go(5, 398, 2), Due.STATE);
    }

    private static SpotTimers threeClocks() {
        SpotTimers x = new SpotTimers();
        x.station(0, 0);
        x.station(0, 0);
        x.clock(0);
        x.clock(0);
        x.clock(0);
        x.clock(1);
        for (int clock = 0; clock < 4; clock++) {
            x.reading(1, clock, 0, 0, 10 * clock);
        }
        return x;
    }

    private static void difference() {
        SpotTimers x = threeClocks();
        int a = x.reading(3, 0, 2, 100, 1);
        int b = x.reading(4, 1, 2, 80, 99);
        int sameClock = x.reading(3, 0, 2, 120, 1);
        int otherStation = x.reading(3, 3, 2, 100, 1);
        int otherHand = x.reading(3, 1, 3, 100, 1);
        int otherNumber = x.reading(3, 1, 2, 100, 2);
        int plate = x.reading(5, 1, 2, 100, 1500);
        int copy = x.copied(b, 80);
        Due.due("of two", x.difference(a, b), 10);
        Due.due("the other way", x.difference(b, a), -10);
        int[] not = {a, sameClock, otherStation, otherHand, otherNumber, plate, copy, 0, -1, 99};
        for (int other : not) {
            Due.due("not joined with " + other, x.difference(a, other), Due.FAR);
            Due.due(other + " not joined", x.difference(other, a), Due.FAR);
        }
        x.number(b, 2);
        Due.due("another NUMBER", x.difference(a, b), Due.FAR);
        x.number(b, 1);
        Due.due("its NUMBER again", x.difference(a, b), 10);
        x.stop(1, 85);
        Due.due("a BLUR's first end is enough", x.difference(a, b), 10);
        x.stop(0, 99);
        Due.due("one has no SEEN", x.difference(a, b), Due.FAR);
        SpotTimers y = threeClocks();
        int c = y.reading(3, 0, 2, 100, 1);
        int d = y.reading(3, 1, 2, 100, 1);
        y.withdraw(d);
        Due.due("a WITHDRAWN one", y.difference(c, d), Due.FAR);
        Due.due("with a WITHDRAWN one", y.difference(d, c), Due.FAR);
    }

    private static void beside() {
        SpotTimers x = threeClocks();
        Due.due("beside(4)", x.beside(4), Due.NONE);
        Due.due("beside(-1)", x.beside(-1), Due.NONE);
        Due.due("it has not stopped", x.beside(1), Due.STATE);
        x.stop(1, 0);
        Due.due("no readings", x.beside(1), Due.NONE);
        x.reading(3, 1, 0, 10, 1);
        x.reading(3, 1, 0, 11, 1);
        x.reading(3, 1, 1, 12, 2);
        x.reading(3, 3, 0, 10, 1);
        x.reading(5, 0, 0, 10, 1500);
        Due.due("another station's, a plate", x.beside(1), Due.NONE);
        int two = x.reading(3, 2, 1, 10, 2);
        Due.due("one two of readings", x.beside(1), 2);
        int zero = x.reading(4, 0, 0, 10, 10);
        Due.due("two twos", x.beside(1), 0);
        x.reading(3, 2, 1, 17, 2);
        Due.due("of several the least", x.beside(1), 0);
        x.withdraw(zero);
        Due.due("less a WITHDRAWN one", x.beside(1), 2);
        x.withdraw(two);
        Due.due("one left", x.beside(1), 2);
        x.reading(3, 0, 0, 17, 1);
        Due.due("two against one", x.beside(1), 0);
        x.stop(2, 0);
        Due.due("of another that stopped", x.beside(2), 1);
        SpotTimers y = new SpotTimers();
        y.station(0, 0);
        y.clock(0);
        y.clock(0);
        y.reading(3, 0, 0, 0, 1);
        y.reading(3, 1, 0, 0, 1);
        y.stop(0, 0);
        y.stop(1, 0);
        Due.due("the first reading", y.beside(0), 1);
        Due.due("with the first reading", y.beside(1), 0);
    }

    private static SpotTimers oneOfEach() {
        SpotTimers x = new SpotTimers();
        x.station(0, 0);
        x.clock(0);
        x.reading(3, 0, 0, 0, 1);
        x.reading(1, 0, 1, 0, 0);
        x.reading(2, 0, 2, 0, 0);
        x.reading(3, 0, 3, 0, 1);
        x.reading(4, 0, 4, 0, 0);
        x.reading(5, 0, 5, 0, 1500);
        x.copied(5, 0);
        x.reading(4, 0, 2, 0, 0);
        x.withdraw(7);
        return x;
    }

    private static void acts() {
        SpotTimers x = oneOfEach();
        int[] xs = {0, 1, 10, -7, Integer.MAX_VALUE, Integer.MIN_VALUE};
        for (int v : xs) {
            Due.due("STAR times", x.act(1, 0, v), v + 1 ^ 1);
            Due.due("STAR weighs", x.act(1, 1, v), (v + 1 ^ 1) * 2);
            Due.due("STAR tells", x.act(1, 2, v), (v + 1 ^ 1) * 2 - 1);
            Due.due("MOON times", x.act(2, 0, v), v + 2);
            Due.due("MOON weighs", x.act(2, 1, v), (v + 2) * 2 + 4);
            Due.due("MOON tells", x.act(2, 2, v), (v + 2) * 2 + 4 - 2);
            Due.due("EDGE times", x.act(3, 0, v), v + 3);
            Due.due("EDGE weighs", x.act(3, 1, v), (v + 3) * 2);
            Due.due("EDGE tells", x.act(3, 2, v), -((v + 3) * 2 - 3));
            Due.due("BLUR times", x.act(4, 0, v), v + 3 + 4);
            Due.due("BLUR weighs", x.act(4, 1, v), (v + 7) * 2);
            Due.due("BLUR tells", x.act(4, 2, v), -((v + 7) * 2 - 4) + 5);
            Due.due("PLATE times", x.act(5, 0, v), v + 5);
            Due.due("PLATE weighs", x.act(5, 1, v), (v + 5) * 2 ^ v);
            Due.due("PLATE tells", x.act(5, 2, v), ((v + 5) * 2 ^ v) - 5);
            Due.due("COPIED times", x.act(6, 0, v), (v + 6) * 3);
            Due.due("COPIED weighs", x.act(6, 1, v), (v + 6) * 3 * 2);
            Due.due("COPIED tells, its HAND the SOURCE's", x.act(6, 2, v), (v + 6) * 3 * 2 - 5);
            Due.due("WITHDRAWN times", x.act(7, 0, v), v + 7);
            Due.due("WITHDRAWN weighs", x.act(7, 1, v), (v + 7) * 2);
            Due.due("WITHDRAWN tells", x.act(7, 2, v), v + 7 - ((v + 7) * 2 - 2));
        }
    }

    private static void traces() {
        SpotTimers x = oneOfEach();
        int[][] want = {
            {1, 0, 20, 10}, {1, 1, 11, 20, 10}, {1, 2, 12, 11, 20, 10},
            {2, 0, 10}, {2, 1, 30, 11, 10, 10}, {2, 2, 12, 30, 11, 10, 10},
            {3, 0, 10}, {3, 1, 11, 10}, {3, 2, 40, 12, 11, 10},
            {4, 0, 50, 10}, {4, 1, 11, 50, 10}, {4, 2, 51, 40, 12, 11, 50, 10},
            {5, 0, 10}, {5, 1, 60, 11, 10}, {5, 2, 12, 60, 11, 10},
            {6, 0, 70, 10}, {6, 1, 11, 70, 10}, {6, 2, 12, 11, 70, 10},
            {7, 0, 10}, {7, 1, 11, 10}, {7, 2, 80, 10, 12, 11, 10}};
        for (int[] w : want) {
            x.act(w[0], w[1], 1);
            Due.due("bodies of " + w[0] + " act " + w[1], x.count(8), w.length - 2);
            for (int i = 2; i < w.length; i++) {
                Due.due("trace of " + w[0] + " act " + w[1], x.trace(i - 2), w[i]);
            }
            Due.due("behind the trace", x.trace(w.length - 2), Due.NONE);
            Due.due("trace(-1)", x.trace(-1), Due.NONE);
        }
        Due.due("no such act", x.act(7, 3, 1), 0);
        Due.due("no trace then", x.trace(0), Due.NONE);
        Due.due("no bodies then", x.count(8), 0);
        x.act(7, 2, 1);
        Due.due("no such reading", x.act(8, 0, 1), 0);
        Due.due("no trace then", x.count(8), 0);
        x.act(7, 2, 1);
        Due.due("act -1", x.act(7, -1, 1), 0);
        Due.due("no trace then", x.trace(0), Due.NONE);
    }

    private static void taken() {
        SpotTimers x = oneOfEach();
        for (int r = 1; r <= 7; r++) {
            for (int k = 0; k <= 7; k++) {
                boolean fits = k == 0 || k == r || r == 4 && k == 3;
                Due.due("taken(" + r + ", " + k + ")", x.taken(r, k), fits ? r : Due.CAST);
            }
        }
        Due.due("taken(8, 8)", x.taken(8, 8), Due.BAD);
        Due.due("taken(1, 8)", x.taken(1, 8), Due.BAD);
        Due.due("taken(1, -1)", x.taken(1, -1), Due.BAD);
        Due.due("taken(8, 0)", x.taken(8, 0), Due.NOTHING);
        Due.due("taken(-1, 0)", x.taken(-1, 0), Due.NOTHING);
    }

    private static void count() {
        SpotTimers x = oneOfEach();
        x.pass(9);
        x.letter(0, 0, 0);
        x.letter(0, 0, 0);
        Due.rule(x, 0, 0, "copied");
        x.feed(0, 3);
        x.place(0, 0, 0);
        int[] want = {9, 1, 1, 8, 2, 1, 3, 1, 0};
        for (int what = 0; what < want.length; what++) {
            Due.due("count(" + what + ")", x.count(what), want[what]);
        }
        Due.due("count(9)", x.count(9), Due.BAD);
        Due.due("count(-1)", x.count(-1), Due.BAD);
    }

    private static void tape() {
        SpotTimers x = new SpotTimers();
        Due.due("tape(6, 9, 99)", x.tape(6, 9, 99), Due.NONE);
        Due.due("tape(-1, 0, 0)", x.tape(-1, 0, 0), Due.NONE);
        Due.due("sort 4", x.tape(0, 4, -1), Due.BAD);
        Due.due("sort -2", x.tape(0, -2, 0), Due.BAD);
        Due.due("n 61", x.tape(0, 0, 61), Due.BAD);
        Due.due("n -1", x.tape(0, 0, -1), Due.SIZE);
        Due.due("n least", x.tape(0, 3, Integer.MIN_VALUE), Due.SIZE);
        Due.due("nothing changed", x.read(0, 0), Due.NO);
        for (int sort = 0; sort <= 3; sort++) {
            Due.due("a row of 60", x.tape(sort, sort, 60), 1);
            Due.due("its last", x.read(sort, 59), 0);
            Due.due("behind its last", x.read(sort, 60), Due.NO);
        }
        Due.due("a row of none", x.tape(5, 2, 0), 1);
        Due.due("it has no place", x.item(5, 0, 1), Due.PLACE);
        x.item(2, 7, 5);
        Due.due("anew", x.tape(2, 2, 8), 1);
        Due.due("all 0", x.read(2, 7), 0);
        Due.due("shorter", x.read(2, 8), Due.NO);
        Due.due("nothing, n does not matter", x.tape(2, -1, -5), 1);
        Due.due("nothing is there", x.item(2, 0, 0), Due.NOTHING);
        Due.due("nothing, n 61", x.tape(3, -1, 61), 1);
        Due.due("nothing is read", x.read(3, 0), Due.NO);
    }

    private static void itemAndRead() {
        SpotTimers x = new SpotTimers();
        for (int sort = 0; sort <= 3; sort++) {
            x.tape(sort, sort, 3);
        }
        int[] vs = {0, 127, 128, 255, 256, -129, 32767, 32768, 65535, 65536, -1, Integer.MAX_VALUE, Integer.MIN_VALUE};
        for (int v : vs) {
            Due.due("item of bytes", x.item(0, 1, v), 1);
            Due.due("read of bytes", x.read(0, 1), (byte) v);
            Due.due("item of shorts", x.item(1, 1, v), 1);
            Due.due("read of shorts", x.read(1, 1), (short) v);
            Due.due("item of ints", x.item(2, 1, v), 1);
            Due.due("read of ints", x.read(2, 1), v);
        }
        int[] eighths = {0, 1, -1, 8000000, -8000000, 12345};
        for (int v : eighths) {
            Due.due("item of reals", x.item(3, 2, v), 1);
            Due.due("read of reals", x.read(3, 2), v);
        }
        Due.due("reals 8000001", x.item(3, 2, 8000001), Due.BAD);
        Due.due("reals -8000001", x.item(3, 2, -8000001), Due.BAD);
        Due.due("nothing changed", x.read(3, 2), 12345);
        Due.due("reals, no place", x.item(3, 3, 8000001), Due.PLACE);
        Due.due("item(6, 0, 0)", x.item(6, 0, 0), Due.NONE);
        Due.due("item(-1, 0, 0)", x.item(-1, 0, 0), Due.NONE);
        Due.due("item(4, -1, 0)", x.item(4, -1, 0), Due.NOTHING);
        Due.due("item(0, -1, 0)", x.item(0, -1, 0), Due.PLACE);
        Due.due("item(0, 3, 0)", x.item(0, 3, 0), Due.PLACE);
        Due.due("read(0, -1)", x.read(0, -1), Due.NO);
        Due.due("read(0, 3)", x.read(0, 3), Due.NO);
        Due.due("read(4, 0)", x.read(4, 0), Due.NO);
        Due.due("read(6, 0)", x.read(6, 0), Due.NO);
        Due.due("read(-1, 0)", x.read(-1, 0), Due.NO);
    }

    private static void blank() {
        SpotTimers x = new SpotTimers();
        x.tape(0, 3, 2);
        x.tape(1, 2, 2);
        Due.due("blank(0, 1)", x.blank(0, 1), 1);
        Due.due("no number", x.read(0, 1), 999999999);
        Due.due("item", x.item(0, 1, 6), 1);
        Due.due("a number again", x.read(0, 1), 6);
        Due.due("ints of that value", x.item(1, 0, 999999999), 1);
        Due.due("read", x.read(1, 0), 999999999);
        Due.due("blank(6, 0)", x.blank(6, 0), Due.NONE);
        Due.due("blank(2, 9)", x.blank(2, 9), Due.NOTHING);
        Due.due("blank(1, 9)", x.blank(1, 9), Due.CAST);
        Due.due("blank(0, 2)", x.blank(0, 2), Due.PLACE);
        Due.due("blank(0, -1)", x.blank(0, -1), Due.PLACE);
    }

    private static SpotTimers rowOf6() {
        SpotTimers x = new SpotTimers();
        x.tape(0, 2, 6);
        for (int i = 0; i < 6; i++) {
            x.item(0, i, i + 1);
        }
        return x;
    }

    private static void dueRow(SpotTimers x, int tape, int... want) {
        for (int i = 0; i < want.length; i++) {
            Due.due("item " + i + " of the row", x.read(tape, i), want[i]);
        }
    }

    private static void shift() {
        SpotTimers x = rowOf6();
        Due.due("up", x.shift(0, 0, 0, 2, 4), 4);
        dueRow(x, 0, 1, 2, 1, 2, 3, 4);
        x = rowOf6();
        Due.due("down", x.shift(0, 2, 0, 0, 4), 4);
        dueRow(x, 0, 3, 4, 5, 6, 5, 6);
        x = rowOf6();
        x.tape(1, 2, 3);
        x.tape(2, 1, 3);
        Due.due("to another", x.shift(0, 1, 1, 1, 2), 2);
        dueRow(x, 1, 0, 2, 3);
        Due.due("none at the ends", x.shift(0, 6, 1, 3, 0), 0);
        Due.due("none behind the end", x.shift(0, 7, 1, 3, 0), Due.PLACE);
        Due.due("none behind the other's end", x.shift(0, 6, 1, 4, 0), Due.PLACE);
        Due.due("too many", x.shift(0, 3, 1, 0, 4), Due.PLACE);
        Due.due("too many for the other", x.shift(0, 0, 1, 0, 4), Due.PLACE);
        Due.due("n -1", x.shift(0, 0, 1, 0, -1), Due.PLACE);
        Due.due("i -1", x.shift(0, -1, 1, 0, 1), Due.PLACE);
        Due.due("j -1", x.shift(0, 0, 1, -1, 1), Due.PLACE);
        Due.due("wide", x.shift(0, 1, 1, 0, Integer.MAX_VALUE), Due.PLACE);
        Due.due("far", x.shift(0, Integer.MAX_VALUE, 1, 0, 1), Due.PLACE);
        Due.due("unlike sorts", x.shift(0, -1, 2, 0, 1), Due.CAST);
        Due.due("nothing in the other", x.shift(0, -1, 3, 0, 1), Due.NOTHING);
        Due.due("nothing in the one", x.shift(3, 0, 0, 0, 1), Due.NOTHING);
        Due.due("no other tape", x.shift(3, 0, 6, 0, 1), Due.NONE);
        Due.due("no tape", x.shift(-1, 0, 0, 0, 1), Due.NONE);
        dueRow(x, 0, 1, 2, 3, 4, 5, 6);
        dueRow(x, 1, 0, 2, 3);
    }
}
