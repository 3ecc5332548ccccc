/** Promises 17 to 23: letters, what a house has, rules by day, what is counted and as what. */
public final class HousesTest {
    public static void main(String[] args) {
        letter();
        has();
        feedAndRule();
        ruleByDay();
        unruled();
        ruled();
        countedKinds();
        countedCopied();
        countedWithdrawn();
        countedBlurs();
        countedNeedsSeen();
        edgesAndWeights();
        strikes();
        refusals();
        Due.end("HousesTest");
    }

    private static void letter() {
        SpotTimers x = new SpotTimers();
        x.station(0, 0);
        Due.due("letter(1, 0, -1)", x.letter(1, 0, -1), Due.NONE);
        Due.due("letter(-1, 0, 0)", x.letter(-1, 0, 0), Due.NONE);
        Due.due("letter(0, 3, 0)", x.letter(0, 3, 0), Due.NONE);
        Due.due("letter(0, -1, 0)", x.letter(0, -1, 0), Due.NONE);
        Due.due("letter(0, 0, -1)", x.letter(0, 0, -1), Due.BAD);
        Due.due("letter(0, 0, 401)", x.letter(0, 0, 401), Due.BAD);
        for (int i = 1; i <= 60; i++) {
            Due.due("letter " + i, x.letter(0, i % 3, i == 1 ? 400 : 0), i);
        }
        Due.due("a bad letter more", x.letter(0, 0, 401), Due.BAD);
        Due.due("a letter more", x.letter(0, 0, 0), Due.FULL);
        Due.due("count(4)", x.count(4), 60);
    }

    private static void has() {
        SpotTimers x = new SpotTimers();
        x.station(0, 0);
        x.station(0, 0);
        x.clock(0);
        x.clock(1);
        x.pass(10);
        x.letter(0, 0, 0);
        int early = x.reading(3, 0, 0, 0, 1);
        Due.due("a letter written ahead of it", x.has(0, early, 9999), 0);
        x.letter(0, 0, 400);
        x.letter(0, 1, 5);
        x.letter(1, 0, 0);
        int late = x.reading(3, 0, 0, 0, 1);
        Due.due("not yet", x.has(0, early, 409), 0);
        Due.due("arrived", x.has(0, early, 410), 1);
        Due.due("the other house, not yet", x.has(1, early, 14), 0);
        Due.due("the other house", x.has(1, early, 15), 1);
        Due.due("the third house", x.has(2, early, 9999), 0);
        Due.due("told behind the letters", x.has(0, late, 9999), 0);
        x.withdraw(early);
        Due.due("withdrawn, not written yet", x.has(1, early, 15), 1);
        x.letter(0, 1, 7);
        Due.due("written, not arrived", x.has(1, early, 16), 1);
        Due.due("as withdrawn", x.has(1, early, 17), 2);
        Due.due("house 0 has it still", x.has(0, early, 9999), 1);
        x.letter(0, 2, 0);
        Due.due("one letter tells both", x.has(2, early, 10), 2);
        Due.due("a star is a reading, too", x.reading(1, 1, 0, 0, 0), 2);
        int copy = x.copied(late, 3);
        Due.due("a copied behind the letter", x.has(1, copy, 9999), 0);
        x.letter(0, 1, 0);
        Due.due("a copied: its source's station", x.has(1, copy, 10), 1);
        x.letter(1, 2, 0);
        Due.due("another station's letter", x.has(2, copy, 9999), 0);
        Due.due("has(3, ..)", x.has(3, early, -1), Due.NONE);
        Due.due("has(-1, ..)", x.has(-1, early, 0), Due.NONE);
        Due.due("has(0, 9, ..)", x.has(0, 9, -1), Due.NONE);
        Due.due("has(0, -1, ..)", x.has(0, -1, 0), Due.NONE);
        Due.due("day -1", x.has(0, early, -1), Due.BAD);
        Due.due("day 10000", x.has(0, early, 10000), Due.BAD);
    }

    private static void feedAndRule() {
        SpotTimers x = new SpotTimers();
        Due.due("feed(0, 5)", x.feed(0, 5), Due.BAD);
        Due.due("feed(0, -1)", x.feed(0, -1), Due.BAD);
        Due.due("feed(.., 0)", x.feed(77, 0), 0);
        // "copi", "ed": the highest of the n lowest bytes first
        Due.due("feed(copi, 4)", x.feed('c' << 24 | 'o' << 16 | 'p' << 8 | 'i', 4), 4);
        Due.due("feed(..ed, 2)", x.feed(0x55550000 | 'e' << 8 | 'd', 2), 6);
        Due.due("no such house", x.rule(3, -1), Due.NONE);
        Due.due("house -1", x.rule(-1, 0), Due.NONE);
        Due.due("no such day", x.rule(0, -1), Due.BAD);
        Due.due("day 10000", x.rule(0, 10000), Due.BAD);
        Due.due("the text stays", x.count(6), 6);
        Due.due("the rule", x.rule(0, 9999), 0);
        Due.due("the text is empty then", x.count(6), 0);
        Due.due("it says", x.ruled(0, 9999, 5), 1);
        Due.due("a fault", Due.rule(x, 0, 0, "copieD"), -15);
        Due.due("the text is empty then", x.count(6), 0);
        Due.due("no rule came", x.count(5), 1);
        for (int i = 1; i <= 11; i++) {
            Due.due("rule " + i, Due.ruleBy4(x, 0, 0, "rest 1"), i);
        }
        Due.due("full ahead of the fault", Due.rule(x, 0, 0, "x"), Due.FULL);
        Due.due("the text stays", x.count(6), 1);
        for (int i = 0; i < 34; i++) {
            x.feed(0, 4);
        }
        Due.due("137 bytes", x.count(6), 137);
        Due.due("4 more", x.feed(0, 4), Due.FULL);
        Due.due("3 more", x.feed(0, 3), 140);
        Due.due("none more", x.feed(0, 0), 140);
        Due.due("1 more", x.feed(0, 1), Due.FULL);
        Due.due("5 more", x.feed(0, 5), Due.BAD);
    }

    private static void ruleByDay() {
        SpotTimers x = new SpotTimers();
        Due.rule(x, 1, 10, "rest 10");
        Due.rule(x, 1, 30, "rest 30");
        Due.rule(x, 1, 20, "rest 20");
        Due.rule(x, 1, 20, "rest 21");
        Due.rule(x, 0, 25, "rest 25");
        Due.due("ahead of all", x.ruled(1, 9, 0), -1);
        Due.due("ahead of all: rest", x.ruled(1, 9, 3), 9999);
        Due.due("from its day on", x.ruled(1, 10, 3), 10);
        Due.due("till the next", x.ruled(1, 19, 0), 0);
        Due.due("of several the latest", x.ruled(1, 20, 0), 3);
        Due.due("the greatest day, not the latest told", x.ruled(1, 30, 0), 1);
        Due.due("for ever", x.ruled(1, 9999, 3), 30);
        Due.due("the other house", x.ruled(0, 25, 0), 4);
        Due.due("the third house", x.ruled(2, 9999, 0), -1);
    }

    private static void unruled() {
        SpotTimers x = new SpotTimers();
        int[] want = {-1, 30, 1, 9999, 0, 0, 0, -5, -5, -5, 1, 1, 1, 1, 1, 1, -5};
        for (int what = 0; what < want.length; what++) {
            Due.due("unruled " + what, x.ruled(2, 0, what), want[what]);
        }
        Due.due("what -1", x.ruled(0, 0, -1), -5);
        Due.due("house 3", x.ruled(3, 0, 0), -5);
        Due.due("house -1", x.ruled(-1, 0, 0), -5);
        Due.due("day -1", x.ruled(0, -1, 0), -5);
        Due.due("day 10000", x.ruled(0, 10000, 0), -5);
    }

    private static void dueRuled(SpotTimers x, int house, int... want) {
        int[] whats = {1, 2, 3, 4, 5, 6, 10, 11, 12, 13, 14, 15};
        for (int i = 0; i < whats.length; i++) {
            Due.due("ruled(" + house + ", 0, " + whats[i] + ")", x.ruled(house, 0, whats[i]), want[i]);
        }
    }

    private static void ruled() {
        SpotTimers x = new SpotTimers();
        Due.ruleBy4(x, 0, 0, "edges 31;blur f;weigh 5 07;strike h=1;rest 40;copied;withdrawn;strike h=2;weigh 0 99");
        dueRuled(x, 0, 10, 0, 40, 2, 1, 1, 99, 1, 1, 1, 1, 7);
        Due.ruleBy4(x, 1, 0, "edges 4321;edges 2;blur l;blur m;rest 1;rest 0;weigh 3 0;weigh 3 5;weigh 2 0");
        dueRuled(x, 1, 4, 1, 0, 0, 0, 0, 1, 1, 0, 5, 1, 1);
        Due.ruleBy4(x, 2, 0, "blur l");
        dueRuled(x, 2, 30, 2, 9999, 0, 0, 0, 1, 1, 1, 1, 1, 1);
    }

    private static void dueCounted(String what, SpotTimers x, int house, int day, int... want) {
        Due.due(what + ": how many", x.counted(house, day, -1), want.length);
        for (int i = 0; i < want.length; i++) {
            Due.due(what + ": the " + i + "th", x.counted(house, day, i), want[i]);
        }
        Due.due(what + ": one more", x.counted(house, day, want.length), Due.NONE);
    }

    private static void countedKinds() {
        SpotTimers x = Due.trueClock();
        x.reading(2, 0, 0, 10, 0);
        int edge = x.reading(3, 0, 0, 11, 1);
        int blur = x.reading(4, 0, 0, 12, 17);
        int plate = x.reading(5, 0, 0, 14, 4409);
        x.copied(edge, 15);
        x.copied(0, 15);
        x.letter(0, 0, 3);
        dueCounted("ahead of the letter", x, 0, 2);
        dueCounted("behind it", x, 0, 3, edge, blur, plate);
        dueCounted("another house", x, 1, 3);
        Due.due("an EDGE counts as", x.counts(0, 3, edge), 11);
        Due.due("a BLUR counts as", x.counts(0, 3, blur), 14);
        Due.due("a PLATE counts as", x.counts(0, 3, plate), 14 - 91);
        Due.due("a MOON", x.counts(0, 3, 1), Due.NO);
        x.reading(3, 0, 0, 16, 1);
        dueCounted("one not written of", x, 0, 9999, edge, blur, plate);
    }

    private static void countedCopied() {
        SpotTimers x = Due.trueClock();
        int edge = x.reading(3, 0, 0, 11, 1);
        int hidden = x.reading(3, 0, 1, 12, 2);
        int blur = x.reading(4, 0, 1, 20, 30);
        int a = x.copied(edge, 13);
        int b = x.copied(hidden, 14);
        int c = x.copied(hidden, 15);
        int d = x.copied(blur, 25);
        x.copied(0, 16);
        x.letter(0, 0, 0);
        Due.ruleBy4(x, 0, 1, "copied");
        Due.ruleBy4(x, 0, 2, "copied;strike k=3&h=1");
        Due.ruleBy4(x, 0, 3, "copied;strike k=3|k=4");
        Due.ruleBy4(x, 0, 4, "copied;weigh 1 0");
        Due.ruleBy4(x, 0, 5, "copied;strike k=3|k=4;edges 2");
        dueCounted("not copied", x, 0, 0, edge, hidden, blur);
        dueCounted("the sources count", x, 0, 1, edge, hidden, blur);
        dueCounted("one does not", x, 0, 2, edge, blur, b, c);
        dueCounted("none does", x, 0, 3, a, b, c, d);
        dueCounted("a hand that weighs nothing", x, 0, 4, edge);
        dueCounted("the source's NUMBER", x, 0, 5, b, c);
        Due.due("as it shows", x.counts(0, 3, d), 25);
        x.withdraw(edge);
        x.letter(0, 0, 0);
        dueCounted("a source that is withdrawn", x, 0, 1, hidden, blur, a);
        x.withdraw(a);
        dueCounted("its withdrawing not written of", x, 0, 1, hidden, blur, a);
        x.letter(0, 0, 0);
        dueCounted("and written of", x, 0, 1, hidden, blur);
    }

    private static void countedWithdrawn() {
        SpotTimers x = Due.trueClock();
        int edge = x.reading(3, 0, 0, 11, 1);
        int blur = x.reading(4, 0, 0, 20, 30);
        x.letter(0, 0, 0);
        x.withdraw(edge);
        x.withdraw(blur);
        x.letter(0, 0, 2);
        Due.ruleBy4(x, 0, 3, "withdrawn");
        Due.ruleBy4(x, 0, 4, "withdrawn;strike k=3");
        Due.ruleBy4(x, 0, 5, "withdrawn;strike k=7");
        dueCounted("not known yet", x, 0, 1, edge, blur);
        dueCounted("known", x, 0, 2);
        dueCounted("withdrawn ones count", x, 0, 3, edge, blur);
        dueCounted("KIND is what it was", x, 0, 4, blur);
        dueCounted("KIND is not 7", x, 0, 5, edge, blur);
        Due.due("a WITHDRAWN BLUR's middle", x.counts(0, 3, blur), 25);
    }

    private static void countedBlurs() {
        SpotTimers x = new SpotTimers();
        x.station(100, 0);
        x.clock(0);
        x.reading(1, 0, 0, 0, 0);
        int blur = x.reading(4, 0, 0, 20, 31);
        x.letter(0, 0, 0);
        Due.ruleBy4(x, 0, 1, "blur f");
        Due.ruleBy4(x, 0, 2, "blur l");
        Due.ruleBy4(x, 0, 3, "blur m");
        Due.ruleBy4(x, 0, 4, "strike t<1");
        Due.due("middle, cut down", x.counts(0, 0, blur), -75);
        Due.due("first", x.counts(0, 1, blur), -80);
        Due.due("last", x.counts(0, 2, blur), -69);
        Due.due("middle", x.counts(0, 3, blur), -75);
        Due.due("struck", x.counts(0, 4, blur), Due.NO);
        SpotTimers y = Due.trueClock();
        int other = y.reading(4, 0, 0, 20, 30);
        y.letter(0, 1, 0);
        Due.ruleBy4(y, 1, 0, "strike t>24");
        Due.ruleBy4(y, 1, 1, "strike t>24;blur f");
        Due.ruleBy4(y, 1, 2, "strike t>25");
        Due.ruleBy4(y, 1, 3, "blur l;strike t<30");
        Due.ruleBy4(y, 1, 4, "blur l;strike t<31");
        Due.due("t of the middle", y.counts(1, 0, other), Due.NO);
        Due.due("t of the first", y.counts(1, 1, other), 20);
        Due.due("t> is above", y.counts(1, 2, other), 25);
        Due.due("t< is below", y.counts(1, 3, other), 30);
        Due.due("t of the last", y.counts(1, 4, other), Due.NO);
    }

    private static void countedNeedsSeen() {
        SpotTimers x = new SpotTimers();
        x.station(99999, 0);
        x.clock(0);
        int edge = x.reading(3, 0, 0, 50, 1);
        int blur = x.reading(4, 0, 0, 50, 60);
        x.letter(0, 0, 0);
        dueCounted("no true time", x, 0, 0);
        x.reading(1, 0, 0, 0, 0);
        dueCounted("no longitude", x, 0, 0);
        int moon = x.reading(2, 0, 0, 10, 3);
        dueCounted("by readings that the house has not", x, 0, 0, edge, blur);
        Due.due("it counts as", x.counts(0, 0, edge), 43);
        x.stop(0, 59);
        Due.ruleBy4(x, 0, 1, "blur f");
        dueCounted("a blur needs both ends", x, 0, 1, edge);
        x.withdraw(moon);
        dueCounted("no longitude again", x, 0, 0);
    }

    private static void edgesAndWeights() {
        SpotTimers x = Due.trueClock();
        int[] r = new int[4];
        for (int i = 0; i < 4; i++) {
            r[i] = x.reading(3, 0, i, 100 + i, i + 1);
        }
        int blur = x.reading(4, 0, 5, 1, 1);
        x.number(blur, 3);
        x.letter(0, 0, 0);
        Due.ruleBy4(x, 0, 1, "edges 42");
        Due.ruleBy4(x, 0, 2, "edges 3;weigh 2 0");
        Due.ruleBy4(x, 0, 3, "weigh 0 0;weigh 1 00;weigh 5 0;weigh 1 01");
        dueCounted("all", x, 0, 0, r[0], r[1], r[2], r[3], blur);
        dueCounted("edges 42", x, 0, 1, r[1], r[3]);
        dueCounted("edges 3", x, 0, 2, blur);
        dueCounted("weights", x, 0, 3, r[1], r[2], r[3]);
    }

    private static void strikes() {
        String[] texts = {
            "strike h=1", "strike !h=1", "strike s=0", "strike s=1", "strike e=2", "strike k=5", "strike k=4",
            "strike t<12", "strike t>12", "strike t>12|t<11", "strike h=1&e=2", "strike h=1&e=3|k=5",
            "strike k=5|h=1&e=2", "strike (k=5|h=1)&e=2", "strike !(k=5|h=1)", "strike !k=5&h=2",
            "strike !(!(!h=1))", "strike h=1;strike h=2", "strike !!h=1|!!!h=1", "strike h=0001", "strike h=11",
            "strike t<999999", "strike t>000000", "strike e=2&(k=5|h=1)", "strike h=1&(e=1)|k=4&!(h=1|e=3)"};
        // 1: hand 1 edge 1 at 10; 2: hand 1 edge 2 at 11; 3: hand 2 edge 3, a plate at 12; 4: hand 3, edge 1, a blur at 13
        String[] left = {
            "34", "12", "", "1234", "134", "124", "123",
            "34", "123", "23", "134", "124",
            "14", "134", "123", "1234",
            "12", "4", "", "34", "1234",
            "", "", "134", "23"};
        for (int i = 0; i < texts.length; i++) {
            SpotTimers x = Due.trueClock();
            x.reading(3, 0, 1, 10, 1);
            x.reading(3, 0, 1, 11, 2);
            x.reading(5, 0, 2, 12, 3500);
            x.reading(4, 0, 3, 13, 13);
            x.letter(0, 0, 0);
            Due.due("the rule " + texts[i], Due.ruleBy4(x, 0, 0, texts[i]), 0);
            int[] want = new int[left[i].length()];
            for (int k = 0; k < want.length; k++) {
                want[k] = left[i].charAt(k) - '0';
            }
            dueCounted(texts[i], x, 0, 0, want);
        }
    }

    private static void refusals() {
        SpotTimers x = Due.trueClock();
        int edge = x.reading(3, 0, 0, 10, 1);
        x.letter(0, 0, 0);
        Due.due("counted, house 3", x.counted(3, -1, -1), Due.NONE);
        Due.due("counted, house -1", x.counted(-1, 0, -1), Due.NONE);
        Due.due("counted, day -1", x.counted(0, -1, -1), Due.BAD);
        Due.due("counted, day 10000", x.counted(0, 10000, 0), Due.BAD);
        Due.due("counted, what -2", x.counted(0, 0, -2), Due.NONE);
        Due.due("counted, what 1", x.counted(0, 0, 1), Due.NONE);
        Due.due("counts", x.counts(0, 9999, edge), 10);
        Due.due("counts, house 3", x.counts(3, 0, edge), Due.NO);
        Due.due("counts, house -1", x.counts(-1, 0, edge), Due.NO);
        Due.due("counts, day -1", x.counts(0, -1, edge), Due.NO);
        Due.due("counts, day 10000", x.counts(0, 10000, edge), Due.NO);
        Due.due("counts, no reading", x.counts(0, 0, 2), Due.NO);
        Due.due("counts, reading -1", x.counts(0, 0, -1), Due.NO);
        Due.due("counts, a star", x.counts(0, 0, 0), Due.NO);
    }
}
