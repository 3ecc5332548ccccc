import java.lang.reflect.InvocationTargetException;
import java.lang.reflect.Method;
import java.util.ArrayList;
import java.util.Arrays;
import java.util.HashMap;
import java.util.List;
import java.util.Map;
import java.util.function.Supplier;

/**
 * Objects that were made alike. One of them is called, the other is not; then all that can be asked is asked of both:
 * after a refused call, or one that only looks, they must answer the same.
 */
final class Twins {
    /** A scene takes fewer than 260 calls, so an object stays within its 512. */
    private static final int QUESTIONS_AT_ONCE = 250;

    private static final Map<String, Method> CALLS = new HashMap<>();
    private static final Map<Supplier<SpotTimers>, List<Question>> QUESTIONS = new HashMap<>();
    private static final Map<Supplier<SpotTimers>, List<long[]>> ANSWERS = new HashMap<>();

    private Twins() {
    }

    private static final class Question {
        final String name;
        final int[] args;

        Question(String name, int... args) {
            this.name = name;
            this.args = args;
        }

        String text() {
            return Twins.text(name, args);
        }
    }

    // ---- what the tests call

    /** The call is answered so, and nothing has changed. */
    static void same(Supplier<SpotTimers> scene, long due, String name, int... args) {
        Due.due(text(name, args), call(scene.get(), name, args), due);
        List<Question> questions = questionsOf(scene);
        List<long[]> untouched = answersOf(scene);
        for (int from = 0, part = 0; from < questions.size(); from += QUESTIONS_AT_ONCE, part++) {
            SpotTimers x = scene.get();
            call(x, name, args);
            long[] answers = ask(x, questions, from);
            for (int i = 0; i < answers.length; i++) {
                Due.due(questions.get(from + i).text() + " behind " + text(name, args), answers[i], untouched.get(part)[i]);
            }
        }
    }

    /** The call is answered so, whatever it changes. */
    static void answers(Supplier<SpotTimers> scene, long due, String name, int... args) {
        Due.due(text(name, args), call(scene.get(), name, args), due);
    }

    /** Both values outside and the two farthest ones. */
    static int[] outside(int least, int most) {
        return new int[] {least - 1, most + 1, Integer.MIN_VALUE, Integer.MAX_VALUE};
    }

    static long call(SpotTimers x, String name, int... args) {
        try {
            Object[] boxed = Arrays.stream(args).boxed().toArray();
            return ((Number) method(name).invoke(x, boxed)).longValue();
        } catch (IllegalAccessException | InvocationTargetException e) {
            throw new IllegalStateException(text(name, args), e);
        }
    }

    private static Method method(String name) {
        if (CALLS.isEmpty()) {
            for (Method each : SpotTimers.class.getMethods()) {
                CALLS.put(each.getName(), each);
            }
        }
        return CALLS.get(name);
    }

    private static String text(String name, int[] args) {
        String inside = Arrays.toString(args);
        return name + "(" + inside.substring(1, inside.length() - 1) + ")";
    }

    // ---- the questions

    private static List<Question> questionsOf(Supplier<SpotTimers> scene) {
        return QUESTIONS.computeIfAbsent(scene, s -> questions(s.get()));
    }

    private static List<long[]> answersOf(Supplier<SpotTimers> scene) {
        if (!ANSWERS.containsKey(scene)) {
            List<Question> questions = questionsOf(scene);
            List<long[]> answers = new ArrayList<>();
            for (int from = 0; from < questions.size(); from += QUESTIONS_AT_ONCE) {
                answers.add(ask(scene.get(), questions, from));
            }
            ANSWERS.put(scene, answers);
        }
        return ANSWERS.get(scene);
    }

    private static long[] ask(SpotTimers x, List<Question> questions, int from) {
        int many = Math.min(QUESTIONS_AT_ONCE, questions.size() - from);
        long[] answers = new long[many];
        for (int i = 0; i < many; i++) {
            Question q = questions.get(from + i);
            answers[i] = call(x, q.name, q.args);
        }
        return answers;
    }

    private static List<Question> questions(SpotTimers x) {
        List<Question> all = new ArrayList<>();
        changes(all, x.count(3));
        for (int what = 0; what <= 8; what++) {
            all.add(new Question("count", what));
        }
        all.add(new Question("ended"));
        for (int i = 0; i <= 7; i++) {
            all.add(new Question("trace", i));
        }
        stationsAndReadings(all, x.count(3));
        int today = x.count(0);
        for (int house = 0; house < 3; house++) {
            for (int day : new int[] {0, Math.max(0, today - 1), today, Math.min(9999, today + 2), 9999}) {
                houseOnADay(all, house, day, x.count(3));
            }
        }
        places(all);
        for (int tape = 0; tape < 6; tape++) {
            for (int i = 0; i < 60; i += i < 8 ? 1 : 51) {
                all.add(new Question("read", tape, i));
            }
        }
        return all;
    }

    private static void stationsAndReadings(List<Question> all, int readings) {
        for (int i = 0; i < 12; i++) {
            all.add(new Question("longitude", i));
            all.add(new Question("beside", i));
            for (int shows : new int[] {0, 99, 250, 410, 999999}) {
                all.add(new Question("time", i, shows));
            }
        }
        for (int r = 0; r < readings; r += r < 24 ? 1 : 7) {
            for (int what = 0; what <= 7; what++) {
                all.add(new Question("of", r, what));
            }
            all.add(new Question("seen", r, 0));
            all.add(new Question("seen", r, 1));
            all.add(new Question("like", r));
            all.add(new Question("taken", r, 3));
            all.add(new Question("taken", r, 7));
            all.add(new Question("difference", r, 5));
        }
    }

    private static void houseOnADay(List<Question> all, int house, int day, int readings) {
        for (int what : new int[] {0, 1, 2, 3, 4, 5, 6, 10, 11, 12, 13, 14, 15}) {
            all.add(new Question("ruled", house, day, what));
        }
        for (int r = 0; r < readings; r += r < 24 ? 1 : 7) {
            all.add(new Question("has", house, r, day));
            all.add(new Question("counts", house, day, r));
        }
        for (int what = -1; what < 12; what++) {
            all.add(new Question("counted", house, day, what));
        }
        all.add(new Question("sum", house, day, 0));
        all.add(new Question("sum", house, day, 1));
        all.add(new Question("distance", house, day, 0));
        all.add(new Question("distance", house, day, 1));
        all.add(new Question("blunders", house, day));
        all.add(new Question("tooWell", house, day, 7));
        all.add(new Question("rest", house, day, 5, 100));
    }

    private static void places(List<Question> all) {
        for (int many = 1; many <= 5; many++) {
            for (int what = 0; what <= 2; what++) {
                all.add(new Question("go", many, 400, what));
                all.add(new Question("go", many, 9, what));
            }
            all.add(new Question("lost", many, 400, 0));
            all.add(new Question("lost", many, 400, 3));
        }
    }

    /** What is seen only by changing it; it comes first, and fills a part of its own. */
    private static void changes(List<Question> all, int readings) {
        for (int number = 1; number <= 4; number++) {
            all.add(new Question("table", number, 7 * number));
            for (int station = 0; station < 11; station++) {
                all.add(new Question("lever", station, number, 3));
            }
        }
        for (int r = 0; r < Math.min(24, readings); r++) {
            all.add(new Question("number", r, 3));
            all.add(new Question("withdraw", r));
        }
        all.add(new Question("feed", 0, 1));
        all.add(new Question("rule", 0, 0));
        all.add(new Question("rule", 0, 0));
        all.add(new Question("station", 0, 0));
        all.add(new Question("clock", 0));
        for (int clock = 0; clock < 12; clock++) {
            all.add(new Question("stop", clock, 300));
        }
        all.add(new Question("reading", 3, 0, 0, 5, 1));
        all.add(new Question("copied", 0, 5));
        all.add(new Question("letter", 0, 0, 0));
        all.add(new Question("counted", 0, 9999, -1));
        all.add(new Question("place", 1, 1, 1));
        all.add(new Question("shift", 3, 0, 3, 1, 3));
        all.add(new Question("book", 0, 0, 1, 3, 0, 9));
        all.add(new Question("ended"));
        all.add(new Question("pass", 1));
        while (all.size() % QUESTIONS_AT_ONCE != 0) {
            all.add(new Question("count", all.size() % 9));
        }
    }

    // ---- the scenes

    static final Supplier<SpotTimers> NEW = SpotTimers::new;
    static final Supplier<SpotTimers> USUAL = Twins::usual;
    static final Supplier<SpotTimers> FULL = Twins::full;

    /**
     * STATIONS 0 .. 2, the second by MOONS; CLOCKS 0, 1 of STATION 0, 2 of 1, 3 of 2; CLOCK 1 has STOPPED; TODAY is 3.
     * READINGS: 0 to 3 STARS, 4 a MOON, 5 and 8 JOINED EDGES, 6 a BLUR, 7 a PLATE, 9 and 10 COPIED ones of 6 and 5,
     * 11 an EDGE, 12 a WITHDRAWN EDGE, 13 a WITHDRAWN COPIED, 14 an EDGE of a BOOK.
     * RULES 0, 1 of HOUSE 0; PLACES 0 .. 3; TAPES 0 bytes, 1 shorts, 2 ints, 3 reals, 4 nothing, 5 reals of none.
     */
    private static SpotTimers usual() {
        SpotTimers x = new SpotTimers();
        x.station(100, 250);
        x.station(99999, 0);
        x.station(-7, 4000);
        x.clock(0);
        x.clock(0);
        x.clock(1);
        x.clock(2);
        x.reading(1, 0, 0, 100, 150);
        x.reading(1, 0, 1, 400, 480);
        x.reading(1, 1, 0, 50, 60);
        x.reading(1, 2, 0, 300, 310);
        x.reading(2, 2, 0, 300, 200);
        x.pass(3);
        x.reading(3, 0, 0, 300, 1);
        x.reading(4, 0, 1, 350, 361);
        x.reading(5, 1, 0, 300, 1510);
        x.reading(3, 1, 0, 290, 1);
        x.copied(6, 352);
        x.copied(5, 300);
        x.reading(3, 2, 2, 410, 3);
        x.reading(3, 0, 0, 310, 2);
        x.copied(11, 411);
        x.number(6, 2);
        x.letter(0, 0, 0);
        x.letter(1, 0, 2);
        x.letter(0, 1, 1);
        x.withdraw(12);
        x.withdraw(13);
        x.letter(0, 0, 1);
        x.stop(1, 600);
        for (int number = 1; number <= 4; number++) {
            x.table(number, 100 * number);
            x.lever(0, number, 5 * number - 12);
            x.lever(1, number, 9 - 4 * number);
        }
        Due.ruleBy4(x, 0, 3, "rest 30;copied");
        Due.ruleBy4(x, 0, 5, "withdrawn;weigh 0 3;blur f");
        x.feed('r' << 8 | 'e', 2);
        x.place(10, 50, 5);
        x.place(-20, 30, 9);
        x.place(5, 100, 1);
        x.place(30, 2, 3);
        x.tape(0, 0, 4);
        x.tape(1, 1, 3);
        x.tape(2, 2, 6);
        x.tape(3, 3, 6);
        x.tape(5, 3, 0);
        for (int i = 0; i < 6; i++) {
            x.item(0, i, 200 + i);
            x.item(1, i, 40000 + i);
            x.item(2, i, 1000000000 + i);
            x.item(3, i, 81 * i - 9);
        }
        x.blank(3, 2);
        x.book(2, 3, 4, 3, 5, 2);
        x.act(6, 2, 3);
        return x;
    }

    /** All there can be of everything, on the last DAY; READINGS 0 a STAR, 1 a BLUR, 2 a COPIED, then EDGES. */
    private static SpotTimers full() {
        SpotTimers x = new SpotTimers();
        for (int i = 0; i < 11; i++) {
            x.station(i == 10 ? 99999 : 10 * i, 100 * i);
        }
        for (int i = 0; i < 12; i++) {
            x.clock(Math.min(i, 10));
        }
        x.reading(1, 0, 0, 0, 0);
        x.reading(4, 0, 0, 20, 25);
        x.copied(1, 22);
        x.tape(3, 3, 60);
        for (int i = 0; i < 3; i++) {
            x.item(3, i, 808 * i);
        }
        x.book(0, 0, 1, 3, 0, 40);
        x.book(0, 1, 1, 3, 0, 40);
        x.book(0, 2, 1, 3, 0, 7);
        for (int i = 0; i < 60; i++) {
            x.letter(i % 11, i % 3, i);
        }
        for (int i = 0; i < 12; i++) {
            Due.ruleBy4(x, i % 3, i, "copied");
        }
        for (int i = 0; i < 35; i++) {
            x.feed('c' << 24 | 'o' << 16 | 'p' << 8 | 'i', 4);
        }
        for (int i = 0; i < 9; i++) {
            x.place(10 * i, 10, i);
        }
        for (int i = 0; i < 25; i++) {
            x.pass(i == 24 ? 399 : 400);
        }
        return x;
    }

    /** A scene, and what is called in it besides. */
    static Supplier<SpotTimers> then(Supplier<SpotTimers> scene, String name, int... args) {
        return () -> {
            SpotTimers x = scene.get();
            call(x, name, args);
            return x;
        };
    }
}
