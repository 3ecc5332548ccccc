/** Promises 1 to 16: a new object, days, stations, clocks, readings, what they are and show, books. */
public final class StationsTest {
    public static void main(String[] args) {
        newObject();
        pass();
        station();
        clockAndStop();
        reading();
        number();
        copiedAndLike();
        withdrawAndOf();
        time();
        timeOfStopped();
        timeBounds();
        longitude();
        seen();
        book();
        bookEnds();
        Due.end("StationsTest");
    }

    private static void newObject() {
        SpotTimers x = new SpotTimers();
        for (int what = 0; what <= 8; what++) {
            Due.due("new: count(" + what + ")", x.count(what), 0);
        }
        Due.due("new: ended()", x.ended(), Due.STATE);
        Due.due("new: trace(0)", x.trace(0), Due.NONE);
        Due.due("new: table(1, 0)", x.table(1, 0), 0);
        Due.due("new: read(0, 0)", x.read(0, 0), Due.NO);
        Due.due("new: ruled(0, 0, 0)", x.ruled(0, 0, 0), -1);
        Due.due("new: clock(0)", x.clock(0), Due.NONE);
        Due.due("new: of(0, 0)", x.of(0, 0), Due.NO);
    }

    private static void pass() {
        SpotTimers x = new SpotTimers();
        Due.due("pass(0)", x.pass(0), Due.BAD);
        Due.due("pass(-1)", x.pass(-1), Due.BAD);
        Due.due("pass(401)", x.pass(401), Due.BAD);
        Due.due("pass(max)", x.pass(Integer.MAX_VALUE), Due.BAD);
        Due.due("pass(1)", x.pass(1), 1);
        for (int i = 1; i <= 24; i++) {
            Due.due("pass(400) " + i, x.pass(400), 1 + 400 * i);
        }
        Due.due("pass(399) beyond 9999", x.pass(399), Due.BAD);
        Due.due("pass(398)", x.pass(398), 9999);
        Due.due("pass(1) beyond 9999", x.pass(1), Due.BAD);
        Due.due("count(0)", x.count(0), 9999);
    }

    private static void station() {
        SpotTimers x = new SpotTimers();
        Due.due("station(43201, 0)", x.station(43201, 0), Due.BAD);
        Due.due("station(-43201, 0)", x.station(-43201, 0), Due.BAD);
        Due.due("station(-99999, 0)", x.station(-99999, 0), Due.BAD);
        Due.due("station(0, -1)", x.station(0, -1), Due.BAD);
        Due.due("station(0, 4001)", x.station(0, 4001), Due.BAD);
        Due.due("station(43200, 4000)", x.station(43200, 4000), 0);
        Due.due("station(-43200, 0)", x.station(-43200, 0), 1);
        Due.due("station(99999, 0)", x.station(99999, 0), 2);
        Due.due("longitude(0)", x.longitude(0), 43200);
        Due.due("longitude(1)", x.longitude(1), -43200);
        Due.due("longitude(2)", x.longitude(2), Due.NO);
        for (int i = 3; i <= 10; i++) {
            Due.due("station " + i, x.station(0, 0), i);
        }
        Due.due("a bad station more", x.station(0, -1), Due.BAD);
        Due.due("a station more", x.station(0, 0), Due.FULL);
        Due.due("count(1)", x.count(1), 11);
    }

    private static void clockAndStop() {
        SpotTimers x = new SpotTimers();
        x.station(0, 0);
        Due.due("clock(1)", x.clock(1), Due.NONE);
        Due.due("clock(-1)", x.clock(-1), Due.NONE);
        for (int i = 0; i <= 11; i++) {
            Due.due("clock " + i, x.clock(0), i);
        }
        Due.due("clock(1), all there", x.clock(1), Due.NONE);
        Due.due("a clock more", x.clock(0), Due.FULL);
        Due.due("stop(12, 0)", x.stop(12, 0), Due.NONE);
        Due.due("stop(-1, -1)", x.stop(-1, -1), Due.NONE);
        Due.due("stop(0, -1)", x.stop(0, -1), Due.BAD);
        Due.due("stop(0, 1000000)", x.stop(0, 1000000), Due.BAD);
        Due.due("stop(0, 0)", x.stop(0, 0), 1);
        Due.due("stop(0, 1000000) again", x.stop(0, 1000000), Due.BAD);
        Due.due("stop(0, 5) again", x.stop(0, 5), Due.STATE);
        Due.due("stop(1, 999999)", x.stop(1, 999999), 1);
    }

    private static SpotTimers oneClock(int longitude, int height) {
        SpotTimers x = new SpotTimers();
        x.station(longitude, height);
        x.clock(0);
        return x;
    }

    private static void reading() {
        SpotTimers x = oneClock(0, 0);
        Due.due("no clock", x.reading(0, 1, 0, -1, 0), Due.NONE);
        Due.due("no hand", x.reading(1, 0, 6, 0, 0), Due.NONE);
        Due.due("hand -1", x.reading(1, 0, -1, 0, 0), Due.NONE);
        int[][] bad = {
            {0, 0, 0}, {6, 0, 0}, {7, 0, 0}, {-1, 0, 0},
            {1, -1, 0}, {1, 1000000, 0}, {1, 0, -1}, {1, 0, 1000000},
            {2, 0, -1}, {2, 0, 1000000}, {3, 0, 0}, {3, 0, 5}, {3, -1, 1},
            {4, 10, 9}, {4, 0, 1000000}, {4, 0, -1},
            {5, 0, 1400}, {5, 0, 1600}, {5, 0, 500}, {5, 0, 5500}, {5, 0, 4600}, {5, 0, -1500}, {5, 0, 0}};
        for (int[] b : bad) {
            Due.due("reading of kind " + b[0] + " shows " + b[1] + " more " + b[2],
                x.reading(b[0], 0, 0, b[1], b[2]), Due.BAD);
        }
        int[][] good = {
            {1, 0, 0}, {1, 999999, 999999}, {2, 999999, 0}, {2, 0, 999999}, {3, 0, 1}, {3, 999999, 4},
            {4, 0, 0}, {4, 10, 10}, {4, 0, 999999}, {4, 999999, 999999},
            {5, 0, 1401}, {5, 0, 1599}, {5, 999999, 4401}, {5, 0, 4599}};
        for (int i = 0; i < good.length; i++) {
            Due.due("good reading " + i, x.reading(good[i][0], 0, i % 6, good[i][1], good[i][2]), i);
            Due.due("its kind", x.of(i, 0), good[i][0]);
            Due.due("what it shows", x.of(i, 4), good[i][1]);
            Due.due("its hand", x.of(i, 3), i % 6);
        }
        for (int i = good.length; i < 90; i++) {
            Due.due("reading " + i, x.reading(3, 0, 0, i, 1), i);
        }
        Due.due("BAD ahead of FULL", x.reading(3, 0, 0, 0, 5), Due.BAD);
        Due.due("a reading more", x.reading(3, 0, 0, 0, 1), Due.FULL);
        Due.due("a copied more", x.copied(0, 0), Due.FULL);
        Due.due("count(3)", x.count(3), 90);
    }

    private static void number() {
        SpotTimers x = oneClock(0, 0);
        x.reading(4, 0, 0, 5, 9);
        x.reading(3, 0, 0, 5, 2);
        x.reading(5, 0, 0, 5, 3500);
        x.copied(0, 5);
        Due.due("of(0, 5)", x.of(0, 5), 1);
        Due.due("number(4, 1)", x.number(4, 1), Due.NONE);
        Due.due("number(-1, 9)", x.number(-1, 9), Due.NONE);
        Due.due("number(1, 9) of an EDGE", x.number(1, 9), Due.CAST);
        Due.due("number of a PLATE", x.number(2, 1), Due.CAST);
        Due.due("number of a COPIED", x.number(3, 1), Due.CAST);
        Due.due("number(0, 0)", x.number(0, 0), Due.BAD);
        Due.due("number(0, 5)", x.number(0, 5), Due.BAD);
        Due.due("number(0, 4)", x.number(0, 4), 1);
        Due.due("number(0, 2)", x.number(0, 2), 4);
        Due.due("of(0, 5) then", x.of(0, 5), 2);
        Due.due("its COPIED's", x.of(3, 5), 2);
        x.withdraw(0);
        Due.due("number of a WITHDRAWN", x.number(0, 1), Due.CAST);
        Due.due("which stays known", x.of(0, 5), 2);
    }

    private static void copiedAndLike() {
        SpotTimers x = oneClock(0, 0);
        x.station(0, 0);
        x.clock(1);
        x.reading(3, 1, 4, 50, 3);
        x.reading(4, 1, 2, 60, 70);
        Due.due("copied(2, -1)", x.copied(2, -1), Due.NONE);
        Due.due("copied(-1, 0)", x.copied(-1, 0), Due.NONE);
        Due.due("copied(0, -1)", x.copied(0, -1), Due.BAD);
        Due.due("copied(0, 1000000)", x.copied(0, 1000000), Due.BAD);
        Due.due("copied(0, 50)", x.copied(0, 50), 2);
        Due.due("copied(1, 70)", x.copied(1, 70), 3);
        Due.due("copied(2, -1)", x.copied(2, -1), Due.BAD);
        Due.due("copied(2, 1)", x.copied(2, 1), Due.STATE);
        Due.due("like(2)", x.like(2), 1);
        Due.due("like(3): it shows the last, not the first", x.like(3), 0);
        Due.due("like(0)", x.like(0), Due.CAST);
        Due.due("like(4)", x.like(4), Due.NONE);
        Due.due("like(-1)", x.like(-1), Due.NONE);
        Due.due("its CLOCK", x.of(3, 2), 1);
        Due.due("its HAND", x.of(3, 3), 2);
        Due.due("its NUMBER", x.of(2, 5), 3);
        Due.due("its SOURCE", x.of(3, 7), 1);
        Due.due("what it shows", x.of(3, 4), 70);
        x.withdraw(2);
        Due.due("like of a WITHDRAWN copied", x.like(2), 1);
        Due.due("copied of a WITHDRAWN copied", x.copied(2, 1), Due.STATE);
        x.withdraw(0);
        Due.due("copied of a WITHDRAWN edge", x.copied(0, 51), 4);
        Due.due("like(4) then", x.like(4), 0);
    }

    private static void withdrawAndOf() {
        SpotTimers x = oneClock(0, 0);
        x.reading(1, 0, 5, 7, 8);
        x.pass(12);
        x.reading(5, 0, 1, 9, 2501);
        x.copied(1, 9);
        Due.due("withdraw(3)", x.withdraw(3), Due.NONE);
        Due.due("withdraw(-1)", x.withdraw(-1), Due.NONE);
        Due.due("withdraw(1)", x.withdraw(1), 1);
        Due.due("withdraw(1) again", x.withdraw(1), Due.STATE);
        int[][] want = {
            {1, 1, 0, 5, 7, Due.NONE, 0, Due.NONE},
            {7, 5, 0, 1, 9, 2, 12, Due.NONE},
            {6, 6, 0, 1, 9, 2, 12, 1}};
        for (int r = 0; r < want.length; r++) {
            for (int what = 0; what < 8; what++) {
                Due.due("of(" + r + ", " + what + ")", x.of(r, what), want[r][what]);
            }
            Due.due("of(" + r + ", 8)", x.of(r, 8), Due.NO);
            Due.due("of(" + r + ", -1)", x.of(r, -1), Due.NO);
        }
        Due.due("of(3, 0)", x.of(3, 0), Due.NO);
        Due.due("of(-1, 0)", x.of(-1, 0), Due.NO);
    }

    private static void time() {
        SpotTimers x = oneClock(0, 0);
        x.clock(0);
        Due.due("no star", x.time(0, 5), Due.NO);
        x.reading(1, 0, 0, 300, 400);
        Due.due("one star ahead", x.time(0, 0), 100);
        Due.due("one star behind", x.time(0, 301), 401);
        Due.due("another clock's", x.time(1, 301), Due.NO);
        x.reading(1, 0, 0, 100, 190);
        x.reading(1, 0, 0, 600, 399);
        // 100:190, 300:400, 600:399
        Due.due("time(0, 100)", x.time(0, 100), 190);
        Due.due("time(0, 101)", x.time(0, 101), 191);
        Due.due("time(0, 299)", x.time(0, 299), 398);
        Due.due("time(0, 300)", x.time(0, 300), 400);
        Due.due("cut down, not to 0", x.time(0, 301), 399);
        Due.due("time(0, 600)", x.time(0, 600), 399);
        Due.due("behind the last", x.time(0, 601), 398);
        Due.due("behind the last, far", x.time(0, 901), 397);
        Due.due("ahead of the first", x.time(0, 99), 188);
        Due.due("ahead of the first, far", x.time(0, 0), 85);
        x.reading(1, 0, 0, 300, 290);
        Due.due("the latest of those that show the same", x.time(0, 300), 290);
        x.withdraw(3);
        Due.due("it is withdrawn", x.time(0, 300), 400);
        x.withdraw(x.reading(1, 0, 0, 600, 0));
        int first = x.reading(1, 0, 0, 100, 200);
        Due.due("the latest of the first", x.time(0, 100), 200);
        Due.due("it alone", x.time(0, 99), 199);
        x.withdraw(first);
        x.withdraw(0);
        Due.due("so is the other", x.time(0, 300), 190 + 83);
        x.copied(0, 300);
        Due.due("a copied star is no star", x.time(0, 300), 273);
        Due.due("time(2, 0)", x.time(2, 0), Due.NO);
        Due.due("time(-1, 0)", x.time(-1, 0), Due.NO);
        Due.due("time(0, -1)", x.time(0, -1), Due.NO);
        Due.due("time(0, 1000000)", x.time(0, 1000000), Due.NO);
    }

    private static void timeOfStopped() {
        SpotTimers x = oneClock(0, 0);
        x.reading(1, 0, 0, 100, 100);
        x.reading(1, 0, 0, 200, 250);
        x.reading(1, 0, 0, 300, 900);
        x.reading(1, 0, 0, 200, 260);
        x.stop(0, 250);
        Due.due("as it stops", x.time(0, 250), 340);
        Due.due("behind it", x.time(0, 251), Due.NO);
        Due.due("ahead of it", x.time(0, 150), 180);
        x.reading(1, 0, 0, 251, 0);
        Due.due("a star that shows later", x.time(0, 250), 340);
        x.reading(1, 0, 0, 250, 400);
        Due.due("one that shows it", x.time(0, 225), 330);

        SpotTimers y = oneClock(0, 0);
        y.reading(1, 0, 0, 100, 100);
        y.stop(0, 99);
        Due.due("no star is left", y.time(0, 50), Due.NO);
    }

    private static void timeBounds() {
        SpotTimers x = oneClock(0, 0);
        x.reading(1, 0, 0, 0, 0);
        x.reading(1, 0, 0, 1, 4);
        Due.due("time 2000000", x.time(0, 500000), 2000000);
        Due.due("time 2000004", x.time(0, 500001), Due.NO);
        x.reading(1, 0, 0, 0, 1);
        x.reading(1, 0, 0, 1, 5);
        Due.due("time 1999997", x.time(0, 499999), 1999997);
        Due.due("time 2000001", x.time(0, 500000), Due.NO);
        SpotTimers y = oneClock(0, 0);
        y.reading(1, 0, 0, 0, 4);
        y.reading(1, 0, 0, 1, 0);
        Due.due("time -2000000", y.time(0, 500001), -2000000);
        Due.due("time -2000004", y.time(0, 500002), Due.NO);
        SpotTimers z = oneClock(0, 0);
        z.reading(1, 0, 0, 999998, 999999);
        z.reading(1, 0, 0, 999999, 0);
        Due.due("a large product", z.time(0, 0), Due.NO);
        SpotTimers w = oneClock(0, 0);
        w.reading(1, 0, 0, 0, 999999);
        w.reading(1, 0, 0, 999999, 0);
        Due.due("a large product between", w.time(0, 500000), 499999);
    }

    private static void longitude() {
        SpotTimers x = oneClock(99999, 0);
        x.clock(0);
        x.station(77, 0);
        x.clock(1);
        x.reading(2, 0, 0, 100, 90);
        Due.due("a moon without a star", x.longitude(0), Due.NO);
        x.reading(1, 0, 0, 0, 0);
        Due.due("one moon", x.longitude(0), 10);
        x.reading(2, 1, 0, 100, 0);
        Due.due("one of a clock without stars", x.longitude(0), 10);
        x.reading(1, 1, 0, 100, 3);
        Due.due("the mean, cut", x.longitude(0), 6);
        x.reading(2, 0, 0, 0, 80);
        Due.due("the mean below 0, cut down", x.longitude(0), -23);
        x.withdraw(0);
        Due.due("less a withdrawn one", x.longitude(0), -39);
        x.stop(1, 99);
        Due.due("less one of a stopped clock", x.longitude(0), -80);
        x.reading(1, 2, 0, 0, 0);
        x.reading(2, 2, 0, 100, 0);
        Due.due("as told, whatever moons say", x.longitude(1), 77);
        x.copied(5, 500);
        Due.due("a copied moon is no moon", x.longitude(0), -80);
        Due.due("longitude(2)", x.longitude(2), Due.NO);
        Due.due("longitude(-1)", x.longitude(-1), Due.NO);
        x.withdraw(5);
        x.withdraw(4);
        Due.due("none without one", x.longitude(0), Due.NO);
    }

    private static void seen() {
        SpotTimers x = oneClock(-50, 199);
        x.reading(1, 0, 0, 0, 0);
        x.reading(3, 0, 0, 20, 1);
        x.reading(4, 0, 0, 30, 44);
        x.reading(5, 0, 0, 40, 1401);
        x.reading(2, 0, 0, 40, 0);
        x.copied(2, 31);
        x.copied(3, 41);
        x.copied(0, 41);
        x.copied(4, 41);
        Due.due("an EDGE", x.seen(1, 0), 20 + 50 - 1);
        Due.due("an EDGE's end 1", x.seen(1, 1), Due.NO);
        Due.due("an EDGE's end -1", x.seen(1, -1), Due.NO);
        Due.due("a BLUR's first", x.seen(2, 0), 79);
        Due.due("a BLUR's last", x.seen(2, 1), 93);
        Due.due("a BLUR's end 2", x.seen(2, 2), Due.NO);
        Due.due("a BLUR's end -1", x.seen(2, -1), Due.NO);
        Due.due("a PLATE", x.seen(3, 0), 40 + 49 - 99);
        Due.due("a STAR", x.seen(0, 0), Due.NO);
        Due.due("a MOON", x.seen(4, 0), Due.NO);
        Due.due("a COPIED of a BLUR", x.seen(5, 0), 80);
        Due.due("its end 1", x.seen(5, 1), Due.NO);
        Due.due("a COPIED of a PLATE", x.seen(6, 0), 41 + 49 - 99);
        Due.due("a COPIED of a STAR", x.seen(7, 0), Due.NO);
        Due.due("a COPIED of a MOON", x.seen(8, 0), Due.NO);
        Due.due("seen(9, 0)", x.seen(9, 0), Due.NO);
        Due.due("seen(-1, 0)", x.seen(-1, 0), Due.NO);
        x.withdraw(2);
        x.withdraw(5);
        Due.due("a WITHDRAWN one", x.seen(2, 1), 93);
        Due.due("a COPIED of a WITHDRAWN one", x.seen(5, 0), 80);
        x.stop(0, 40);
        Due.due("a BLUR's last behind the stop", x.seen(2, 1), Due.NO);
        Due.due("its first ahead of it", x.seen(2, 0), 79);
        Due.due("a COPIED behind the stop", x.seen(6, 0), Due.NO);
        SpotTimers high = oneClock(0, 4000);
        high.reading(1, 0, 0, 0, 0);
        high.reading(3, 0, 0, 20, 1);
        Due.due("from a height of 4000", high.seen(1, 0), -20);
        SpotTimers y = oneClock(99999, 0);
        y.reading(1, 0, 0, 0, 0);
        y.reading(3, 0, 0, 20, 1);
        Due.due("without a LONGITUDE", y.seen(1, 0), Due.NO);
    }

    private static void book() {
        SpotTimers x = oneClock(0, 0);
        x.tape(0, 3, 10);
        int[] eighths = {7, 8, 9, 0, 7999999, 0, 16, 24, 32, 40};
        for (int i = 0; i < eighths.length; i++) {
            x.item(0, i, eighths[i]);
        }
        x.blank(0, 3);
        Due.due("book without a clock", x.book(1, 0, 0, 0, 0, 0), Due.NONE);
        Due.due("book without a hand", x.book(0, 6, 0, 0, 0, 0), Due.NONE);
        Due.due("book without a tape", x.book(0, 0, 0, 6, 0, 0), Due.NONE);
        Due.due("book, tape -1", x.book(0, 0, 1, -1, 0, 1), Due.NONE);
        Due.due("book, first 0", x.book(0, 0, 0, 0, 0, 1), Due.BAD);
        Due.due("book, first 5", x.book(0, 0, 5, 0, 0, 1), Due.BAD);
        Due.due("book, n 0", x.book(0, 0, 1, 0, 0, 0), Due.BAD);
        Due.due("book, n 41", x.book(0, 0, 1, 0, 0, 41), Due.BAD);
        Due.due("ended() of none", x.ended(), Due.STATE);
        x.pass(3);
        Due.due("a book", x.book(0, 2, 2, 0, 0, 10), 9);
        Due.due("ended", x.ended(), 0);
        int[] shows = {0, 1, 1, 999999, 0, 2, 3, 4, 5};
        int[] edges = {2, 3, 4, 2, 3, 4, 1, 2, 3};
        for (int i = 0; i < shows.length; i++) {
            Due.due("it is an EDGE", x.of(i, 0), 3);
            Due.due("it shows", x.of(i, 4), shows[i]);
            Due.due("its NUMBER", x.of(i, 5), edges[i]);
            Due.due("its HAND", x.of(i, 3), 2);
            Due.due("its CLOCK", x.of(i, 2), 0);
            Due.due("its DAY", x.of(i, 6), 3);
        }
    }

    private static void bookEnds() {
        SpotTimers x = oneClock(0, 0);
        x.tape(0, 3, 40);
        x.tape(1, 2, 40);
        x.tape(2, 3, 0);
        x.tape(4, 3, 2);
        x.item(4, 0, 8000000);
        x.blank(4, 1);
        Due.due("ints", x.book(0, 0, 1, 1, 0, 1), Due.CAST);
        Due.due("ended() of none", x.ended(), Due.STATE);
        Due.due("nothing there", x.book(0, 0, 1, 3, -7, 1), 0);
        Due.due("ended NOTHING", x.ended(), 1);
        Due.due("a refused one", x.book(0, 0, 1, 1, 0, 1), Due.CAST);
        Due.due("ended as before", x.ended(), 1);
        Due.due("a row of none", x.book(0, 0, 1, 2, 0, 1), 0);
        Due.due("ended PLACE", x.ended(), 2);
        Due.due("place -1", x.book(0, 0, 1, 0, -1, 40), 0);
        Due.due("ended PLACE", x.ended(), 2);
        Due.due("the last place there can be", x.book(0, 0, 1, 0, Integer.MAX_VALUE, 40), 0);
        Due.due("ended PLACE", x.ended(), 2);
        Due.due("no time", x.book(0, 0, 1, 4, 0, 2), 0);
        Due.due("ended no time", x.ended(), 3);
        x.item(4, 0, -1);
        Due.due("an eighth below 0", x.book(0, 0, 1, 4, 0, 2), 0);
        Due.due("ended no time", x.ended(), 3);
        Due.due("beyond the end", x.book(0, 0, 1, 0, 1, 40), 39);
        Due.due("ended PLACE", x.ended(), 2);
        Due.due("40 more", x.book(0, 0, 1, 0, 0, 40), 40);
        Due.due("ended", x.ended(), 0);
        Due.due("no room", x.book(0, 0, 1, 0, 0, 40), 11);
        Due.due("ended no room", x.ended(), 4);
        Due.due("count(3)", x.count(3), 90);
        Due.due("no time ahead of no room", x.book(0, 0, 1, 4, 0, 1), 0);
        Due.due("ended no time", x.ended(), 3);
        Due.due("a blank needs no room", x.book(0, 0, 1, 4, 1, 1), 0);
        Due.due("ended", x.ended(), 0);
        Due.due("no place ahead of no room", x.book(0, 0, 1, 4, 1, 2), 0);
        Due.due("ended PLACE", x.ended(), 2);
        Due.due("no room", x.book(0, 0, 1, 0, 0, 1), 0);
        Due.due("ended no room", x.ended(), 4);
    }
}
