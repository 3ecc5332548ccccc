/** What the tests share: answers held against those that are due, and the exit code. */
final class Due {
    static final int NONE = SpotTimers.NONE, BAD = SpotTimers.BAD, STATE = SpotTimers.STATE, FULL = SpotTimers.FULL;
    static final int NOTHING = -11, CAST = -12, PLACE = -13, SIZE = -14;
    static final int NO = SpotTimers.NO;
    static final long FAR = SpotTimers.FAR;

    private static int wrong = 0;
    private static int held = 0;

    private Due() {
    }

    static void due(String call, long got, long want) {
        held++;
        if (got != want) {
            wrong++;
            if (wrong <= 40) {
                System.out.println(call + " answered " + got + ", due is " + want);
            }
        }
    }

    static void due(String what, boolean holds) {
        due(what, holds ? 1 : 0, 1);
    }

    /** A STATION 0 whose CLOCK 0 shows true time; READING 0 is its STAR. */
    static SpotTimers trueClock() {
        SpotTimers x = new SpotTimers();
        x.station(0, 0);
        x.clock(0);
        x.reading(1, 0, 0, 0, 0);
        return x;
    }

    /** Feeds a text byte by byte and makes it a RULE. */
    static int rule(SpotTimers x, int house, int day, String text) {
        for (int i = 0; i < text.length(); i++) {
            x.feed(text.charAt(i), 1);
        }
        return x.rule(house, day);
    }

    /** The same with 4 bytes at a time, for runs that must stay under 512 calls. */
    static int ruleBy4(SpotTimers x, int house, int day, String text) {
        for (int i = 0; i < text.length(); i += 4) {
            int n = Math.min(4, text.length() - i);
            int bytes = 0;
            for (int k = 0; k < n; k++) {
                bytes = bytes << 8 | text.charAt(i + k);
            }
            x.feed(bytes, n);
        }
        return x.rule(house, day);
    }

    static void end(String test) {
        System.out.println(test + ": " + held + " answers held, " + wrong + " wrong");
        if (wrong != 0 || held == 0) {
            System.exit(1);
        }
    }
}
