/** Promises 24 to 30: tables, levers, the sum, distance, rests, blunders, rests that agree too well. */
public final class SumsTest {
    public static void main(String[] args) {
        table();
        lever();
        sumOfOne();
        sumOfNothing();
        sumWeighed();
        sumReduced();
        distanceBounds();
        together();
        rest();
        blunders();
        blundersTies();
        blundersMost();
        tooWell();
        tooWellMost();
        refusals();
        Due.end("SumsTest");
    }

    private static void table() {
        SpotTimers x = new SpotTimers();
        Due.due("table(0, -1)", x.table(0, -1), Due.NONE);
        Due.due("table(5, 0)", x.table(5, 0), Due.NONE);
        Due.due("table(1, -1)", x.table(1, -1), Due.BAD);
        Due.due("table(4, 1000000)", x.table(4, 1000000), Due.BAD);
        for (int number = 1; number <= 4; number++) {
            Due.due("the first", x.table(number, 999990 + number), 0);
        }
        for (int number = 1; number <= 4; number++) {
            Due.due("what it was", x.table(number, 0), 999990 + number);
        }
    }

    private static void lever() {
        SpotTimers x = new SpotTimers();
        Due.due("no station", x.lever(0, 1, 0), -100);
        x.station(0, 0);
        x.station(0, 0);
        Due.due("station 2", x.lever(2, 1, 0), -100);
        Due.due("station -1", x.lever(-1, 1, 0), -100);
        Due.due("number 0", x.lever(0, 0, 0), -100);
        Due.due("number 5", x.lever(0, 5, 0), -100);
        Due.due("lever 100", x.lever(0, 1, 100), -100);
        Due.due("lever -100", x.lever(0, 1, -100), -100);
        Due.due("lever(0, 1, 99)", x.lever(0, 1, 99), 0);
        Due.due("lever(0, 4, -99)", x.lever(0, 4, -99), 0);
        Due.due("another station's", x.lever(1, 1, 5), 0);
        Due.due("another number's", x.lever(0, 2, 5), 0);
        Due.due("what it was", x.lever(0, 1, 0), 99);
        Due.due("what it was", x.lever(0, 4, 0), -99);
    }

    private static void dueSum(String what, SpotTimers x, int day, long above, long below) {
        Due.due(what + ": above", x.sum(0, day, 0), above);
        Due.due(what + ": below", x.sum(0, day, 1), below);
    }

    private static void sumOfOne() {
        SpotTimers x = Due.trueClock();
        x.table(2, 100);
        x.lever(0, 2, 7);
        x.reading(3, 0, 0, 103, 2);
        dueSum("not told", x, 0, Due.FAR, Due.FAR);
        x.letter(0, 0, 0);
        dueSum("told", x, 0, 300, 7);
        Due.due("distance", x.distance(0, 0, 0), 42);
        x.lever(0, 2, -7);
        dueSum("the lever the other way", x, 0, -300, 7);
        Due.due("distance", x.distance(0, 0, 0), 0);
        x.table(2, 103);
        dueSum("0 is 0 by 1", x, 0, 0, 1);
        Due.due("distance", x.distance(0, 0, 0), 0);
        x.table(2, 105);
        dueSum("both below", x, 0, 200, 7);
    }

    private static void sumOfNothing() {
        SpotTimers x = Due.trueClock();
        x.reading(3, 0, 0, 103, 2);
        x.reading(3, 0, 0, 104, 3);
        x.letter(0, 0, 0);
        Due.due("counted", x.counted(0, 0, -1), 2);
        dueSum("all levers 0", x, 0, Due.FAR, Due.FAR);
        Due.due("no distance", x.distance(0, 0, 0), -5);
        Due.due("no together", x.distance(0, 0, 1), -5);
        Due.due("a rest there is", x.rest(0, 0, 1, 5), 103);
        x.lever(0, 3, 1);
        dueSum("one lever", x, 0, 10400, 1);
    }

    private static void sumWeighed() {
        SpotTimers x = Due.trueClock();
        x.lever(0, 1, 10);
        x.lever(0, 2, -20);
        x.reading(3, 0, 0, 5, 1);
        x.reading(3, 0, 1, 3, 2);
        x.reading(3, 0, 2, 9, 1);
        x.letter(0, 0, 0);
        Due.ruleBy4(x, 0, 1, "weigh 0 3;weigh 2 50");
        Due.ruleBy4(x, 0, 2, "weigh 1 99");
        // 100 (50 - 60 + 90) by (100 + 400 + 100)
        dueSum("unweighed", x, 0, 40, 3);
        // 100 (150 - 60 + 4500) by (300 + 400 + 5000)
        dueSum("weighed", x, 1, 1530, 19);
        // 100 (50 - 5940 + 90) by (100 + 39600 + 100)
        dueSum("weighed, below 0", x, 2, -2900, 199);
    }

    private static void sumReduced() {
        SpotTimers x = Due.trueClock();
        x.lever(0, 1, 99);
        x.lever(0, 2, -99);
        for (int i = 0; i < 40; i++) {
            x.reading(3, 0, 0, 999999, 1);
        }
        x.letter(0, 0, 0);
        Due.ruleBy4(x, 0, 0, "weigh 0 99");
        dueSum("large ones", x, 0, 1010100, 1);
        Due.due("distance, at most", x.distance(0, 0, 0), 99999);
        x.reading(3, 0, 0, 999998, 1);
        x.letter(0, 0, 0);
        // 100 (41 * 999999 - 1) by 41 * 99
        dueSum("one unlike", x, 0, 4099995800L, 4059);
    }

    private static void distanceBounds() {
        SpotTimers x = Due.trueClock();
        x.lever(0, 1, 100 - 1);
        x.lever(0, 2, 1);
        x.reading(3, 0, 0, 999, 2);
        x.letter(0, 0, 0);
        dueSum("99900", x, 0, 99900, 1);
        Due.due("distance", x.distance(0, 0, 0), 99900);
        SpotTimers y = Due.trueClock();
        y.lever(0, 2, 1);
        y.reading(3, 0, 0, 1000, 2);
        y.letter(0, 0, 0);
        dueSum("100000", y, 0, 100000, 1);
        Due.due("at most 99999", y.distance(0, 0, 0), 99999);
        SpotTimers z = Due.trueClock();
        z.lever(0, 2, -3);
        z.reading(3, 0, 0, 1, 2);
        z.letter(0, 0, 0);
        dueSum("-33 and a third", z, 0, -100, 3);
        Due.due("0 at least", z.distance(0, 0, 0), 0);
    }

    private static void together() {
        SpotTimers x = Due.trueClock();
        x.lever(0, 1, 3);
        x.lever(0, 2, -4);
        x.reading(3, 0, 0, 10, 1);
        x.reading(3, 0, 1, 7, 2);
        x.letter(0, 0, 0);
        Due.ruleBy4(x, 0, 1, "weigh 0 5");
        // P = 100 (30 - 28) by 25 = 8: rests 10 - 0, 7 - floor(-0.32)
        Due.due("distance", x.distance(0, 0, 0), 8);
        Due.due("together", x.distance(0, 0, 1), 100 + 64);
        // P = 100 (150 - 28) by (45 + 16) = 200: rests 10 - 6, 7 + 8
        Due.due("distance, weighed", x.distance(0, 1, 0), 200);
        Due.due("together, weighed", x.distance(0, 1, 1), 5 * 16 + 225);
        SpotTimers y = Due.trueClock();
        y.lever(0, 1, -1);
        for (int i = 0; i < 80; i++) {
            y.reading(3, 0, 0, 999999, 1);
        }
        y.letter(0, 0, 0);
        Due.ruleBy4(y, 0, 0, "weigh 0 99");
        Due.due("what is left of it", y.distance(0, 0, 1), 7920L * 999999 % 1000000007 * 999999 % 1000000007);
    }

    private static void rest() {
        SpotTimers x = Due.trueClock();
        x.table(1, 50);
        x.lever(0, 1, -7);
        int edge = x.reading(3, 0, 0, 60, 1);
        int blur = x.reading(4, 0, 0, 60, 71);
        int copy = x.copied(edge, 64);
        x.letter(0, 0, 0);
        Due.ruleBy4(x, 0, 1, "copied;strike k=3;blur l");
        Due.due("P 0", x.rest(0, 0, edge, 0), 10);
        Due.due("P 1: -0.07 is cut to -1", x.rest(0, 0, edge, 1), 11);
        Due.due("P 100", x.rest(0, 0, edge, 100), 17);
        Due.due("P 101", x.rest(0, 0, edge, 101), 18);
        Due.due("P 99999", x.rest(0, 0, edge, 99999), 7010);
        Due.due("P -1", x.rest(0, 0, edge, -1), Due.NO);
        Due.due("P 100000", x.rest(0, 0, edge, 100000), Due.NO);
        Due.due("a BLUR", x.rest(0, 0, blur, 0), 15);
        Due.due("a BLUR's last", x.rest(0, 1, blur, 0), 21);
        Due.due("a COPIED that does not count", x.rest(0, 0, copy, 0), Due.NO);
        Due.due("a COPIED", x.rest(0, 1, copy, 0), 14);
        Due.due("its SOURCE then", x.rest(0, 1, edge, 0), Due.NO);
        Due.due("a STAR", x.rest(0, 0, 0, 0), Due.NO);
        Due.due("reading 9", x.rest(0, 0, 9, 0), Due.NO);
        Due.due("reading -1", x.rest(0, 0, -1, 0), Due.NO);
        Due.due("house 3", x.rest(3, 0, edge, 0), Due.NO);
        Due.due("day 10000", x.rest(0, 10000, edge, 0), Due.NO);
        Due.due("day -1", x.rest(0, -1, edge, 0), Due.NO);
    }

    private static void blunders() {
        SpotTimers x = Due.trueClock();
        x.lever(0, 1, 10);
        int[] shows = {10, 11, 500, 9, 10};
        for (int s : shows) {
            x.reading(3, 0, 0, s, 1);
        }
        x.letter(0, 0, 0);
        Due.ruleBy4(x, 0, 1, "rest 1");
        Due.ruleBy4(x, 0, 2, "rest 0");
        Due.ruleBy4(x, 0, 3, "rest 2");
        Due.due("rest 9999", x.blunders(0, 0), 0);
        Due.due("rest 1", x.blunders(0, 1), 4);
        Due.due("rest 0", x.blunders(0, 2), 2 + 4 + 8);
        Due.due("rest 2", x.blunders(0, 3), 4);
        Due.due("none counted", x.blunders(1, 0), 0);
        SpotTimers y = Due.trueClock();
        y.reading(3, 0, 0, 9, 1);
        y.reading(3, 0, 0, 5000, 2);
        y.letter(0, 0, 0);
        Due.ruleBy4(y, 0, 0, "rest 1");
        Due.due("all levers 0", y.blunders(0, 0), 0);
        y.lever(0, 1, 1);
        Due.due("the others' rests count, too", y.blunders(0, 0), 1);
    }

    private static void blundersTies() {
        SpotTimers x = Due.trueClock();
        x.lever(0, 1, 100 - 50);
        x.reading(3, 0, 0, 10, 1);
        x.reading(3, 0, 0, 900, 1);
        x.reading(3, 0, 0, 20, 1);
        x.letter(0, 0, 0);
        Due.ruleBy4(x, 0, 0, "rest 0");
        Due.due("two of three, the least set", x.blunders(0, 0), 3);
        Due.ruleBy4(x, 0, 1, "rest 5");
        Due.due("one of three", x.blunders(0, 1), 2);
        SpotTimers y = Due.trueClock();
        y.lever(0, 1, 50);
        y.reading(3, 0, 0, 10, 1);
        y.reading(3, 0, 0, 900, 1);
        y.letter(0, 0, 0);
        Due.ruleBy4(y, 0, 0, "rest 0");
        Due.due("one of two, the least set", y.blunders(0, 0), 1);
        y.lever(0, 1, -50);
        Due.due("the distance is 0 at least", y.blunders(0, 0), 3);
    }

    private static void blundersMost() {
        SpotTimers x = Due.trueClock();
        x.lever(0, 1, 10);
        for (int i = 0; i < 12; i++) {
            x.reading(3, 0, 0, 1 << i, 1);
        }
        x.letter(0, 0, 0);
        Due.ruleBy4(x, 0, 0, "rest 0");
        Due.due("all but one of 12", x.blunders(0, 0), 2047);
        x.reading(3, 0, 0, 1, 1);
        Due.due("12 are known", x.blunders(0, 0), 2047);
        x.letter(0, 0, 0);
        Due.due("13 are counted", x.blunders(0, 0), Due.STATE);
    }

    private static void tooWell() {
        SpotTimers x = Due.trueClock();
        x.lever(0, 1, 10);
        x.reading(3, 0, 0, 10, 1);
        x.reading(3, 0, 0, 16, 1);
        x.letter(0, 0, 0);
        // P is 130, rests are -3 and 3
        Due.due("distance", x.distance(0, 0, 0), 130);
        Due.due("span 1: all of 9", x.tooWell(0, 0, 1), 9);
        Due.due("span 2: 0, 2, 4", x.tooWell(0, 0, 2), 6);
        Due.due("span 3: 0, 3", x.tooWell(0, 0, 3), 3);
        Due.due("span 6: 0, as 6 is not lesser", x.tooWell(0, 0, 6), 1);
        Due.due("span 5: 0, 5", x.tooWell(0, 0, 5), 3);
        Due.due("span 99", x.tooWell(0, 0, 99), 1);
        Due.ruleBy4(x, 0, 1, "weigh 0 7");
        Due.due("weights are no matter", x.tooWell(0, 1, 3), 3);
        SpotTimers y = Due.trueClock();
        y.lever(0, 1, 10);
        y.reading(3, 0, 0, 10, 1);
        y.letter(0, 0, 0);
        Due.due("rests of 0", y.tooWell(0, 0, 1), 0);
    }

    private static void tooWellMost() {
        SpotTimers x = Due.trueClock();
        x.lever(0, 1, -1);
        for (int i = 0; i < 8; i++) {
            x.reading(3, 0, 0, 1, 1);
        }
        x.letter(0, 0, 0);
        // P is 0, each rest is 1, the sum is 8: ways of 3^8 below the middle
        Due.due("8 are counted", x.tooWell(0, 0, 1), (6561 - 1107) / 2);
        x.table(1, 999999);
        x.lever(0, 1, 1);
        Due.due("all ways", x.tooWell(0, 0, 99), 6561);
        x.reading(3, 0, 0, 1, 1);
        x.letter(0, 0, 0);
        Due.due("9 are counted", x.tooWell(0, 0, 1), Due.STATE);
    }

    private static void refusals() {
        SpotTimers x = Due.trueClock();
        x.lever(0, 1, 10);
        x.reading(3, 0, 0, 10, 1);
        x.letter(0, 0, 0);
        int[][] none = {{3, 0}, {-1, 0}, {0, -1}, {0, 10000}};
        for (int[] n : none) {
            Due.due("sum", x.sum(n[0], n[1], 0), Due.FAR);
            Due.due("distance", x.distance(n[0], n[1], 0), -5);
            Due.due("blunders", x.blunders(n[0], n[1]), n[0] != 0 ? Due.NONE : Due.BAD);
            Due.due("tooWell", x.tooWell(n[0], n[1], 1), n[0] != 0 ? Due.NONE : Due.BAD);
        }
        Due.due("part 2", x.sum(0, 0, 2), Due.FAR);
        Due.due("part -1", x.sum(0, 0, -1), Due.FAR);
        Due.due("what 2", x.distance(0, 0, 2), -5);
        Due.due("what -1", x.distance(0, 0, -1), -5);
        Due.due("blunders(3, -1)", x.blunders(3, -1), Due.NONE);
        Due.due("tooWell(3, -1, 0)", x.tooWell(3, -1, 0), Due.NONE);
        Due.due("span 0", x.tooWell(1, 0, 0), Due.BAD);
        Due.due("span 100", x.tooWell(0, 0, 100), Due.BAD);
        Due.due("no sum", x.tooWell(1, 0, 1), Due.STATE);
        Due.due("distance of no sum", x.distance(1, 0, 0), -5);
        Due.due("sum of none", x.sum(1, 0, 1), Due.FAR);
        Due.due("all is there", x.tooWell(0, 0, 1), 0);
        Due.due("together", x.distance(0, 0, 1), 0);
    }
}
