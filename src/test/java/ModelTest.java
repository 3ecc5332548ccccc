import java.lang.reflect.Method;
import java.util.Arrays;
import java.util.HashMap;
import java.util.Map;
import java.util.Random;

/** Runs of 512 chance calls on a fresh object and on the plain model: each answer must be the same. */
public final class ModelTest {
    private static final int CALLS = 512;
    private static final int[] ODD = {
        -1, 0, 1, 2, -2, 3, 5, 6, 7, 11, 12, 60, 61, 89, 90, 99, 100, 140, 400, 401, 9999, 10000, 99999, 100000, 999999,
        1000000, 8000000, -8000001, Integer.MAX_VALUE, Integer.MIN_VALUE, Integer.MAX_VALUE - 3, -43201};

    /** The calls, with how often each comes and a letter for each argument; args() says what a letter means. */
    private static final String[] CALL_KINDS = {
        "pass 2 a", "station 3 bc", "clock 4 S", "stop 1 Ct", "reading 60 kCHtm", "number 4 RE", "copied 8 Rt",
        "withdraw 5 R", "of 6 Rw", "time 8 Ct", "longitude 3 S", "seen 8 Re", "like 2 R", "book 3 CHETpn", "ended 2 ",
        "letter 10 SUd", "has 6 URD", "feed 1 of", "rule 2 UD", "ruled 5 UDr", "counted 10 UDx", "counts 8 UDR",
        "table 4 Et", "lever 8 SEv", "sum 8 UDz", "distance 8 UDz", "rest 8 UDRP", "blunders 3 UD", "tooWell 5 UDs",
        "place 3 vgh", "go 4 ijz", "lost 3 ijK", "difference 20 RR", "beside 3 C", "act 6 Rzo", "trace 3 w",
        "taken 4 Rw", "count 3 w", "tape 4 Tqn", "item 8 Tpu", "blank 3 Tp", "read 5 Tp", "shift 3 TpTpl"};

    private final Random random;
    /** How far the times of a run lie apart: narrow ones agree often, wide ones reach the bounds. */
    private final int spread;
    private final boolean odd;
    /** Blunders and rests that agree too well want few readings; bounds want all there can be. */
    private final int fewReadings;
    private final SpotTimers real = new SpotTimers();
    private final Model model = new Model();
    private final StringBuilder log = new StringBuilder();
    private int calls = 0;

    private static final Map<String, Method> REAL = methods(SpotTimers.class);
    private static final Map<String, Method> MODEL = methods(Model.class);
    private static final Map<String, Integer> ANSWERED = new HashMap<>();

    private ModelTest(long seed) {
        random = new Random(seed);
        spread = new int[] {40, 40, 300, 5000, 999999}[random.nextInt(5)];
        odd = random.nextInt(4) == 0;
        fewReadings = random.nextInt(3) == 0 ? 1000 : pick(12, 30);
    }

    private static Map<String, Method> methods(Class<?> of) {
        Map<String, Method> all = new HashMap<>();
        for (Method method : of.getDeclaredMethods()) {
            if (java.lang.reflect.Modifier.isPublic(method.getModifiers())) {
                all.put(method.getName(), method);
            }
        }
        return all;
    }

    public static void main(String[] args) throws ReflectiveOperationException {
        int runs = args.length > 1 ? Integer.parseInt(args[1]) : 400;
        int from = args.length > 2 ? Integer.parseInt(args[2]) : 0;
        for (int run = from; run < from + runs; run++) {
            new ModelTest(run).run(run);
        }
        for (String name : REAL.keySet()) {
            Due.due(name + " gave an answer above 0 in some run", ANSWERED.getOrDefault(name, 0) > 0);
        }
        if (args.length > 3) {
            System.out.println(ANSWERED);
        }
        Due.end("ModelTest");
    }

    private int pick(int least, int most) {
        return least + random.nextInt(most - least + 1);
    }

    private boolean call(String name, int... args) throws ReflectiveOperationException {
        Object[] boxed = Arrays.stream(args).boxed().toArray();
        long got = ((Number) REAL.get(name).invoke(real, boxed)).longValue();
        long want = ((Number) MODEL.get(name).invoke(model, boxed)).longValue();
        if (name.equals("rule") && got <= -10) {
            got = Model.SOME_FAULT;
        }
        calls++;
        log.append(name).append(Arrays.toString(args)).append(" = ").append(want).append('\n');
        if (got > 0) {
            ANSWERED.merge(name, 1, Integer::sum);
        }
        Due.due(name + Arrays.toString(args), got, want);
        if (got != want) {
            System.out.println(log);
        }
        return got == want;
    }

    private void run(int run) throws ReflectiveOperationException {
        boolean same = true;
        int stations = pick(1, 3);
        for (int i = 0; i < stations; i++) {
            same &= call("station", random.nextInt(3) == 0 ? 99999 : pick(-spread / 4 - 3, spread / 4 + 3) % 43200, pick(0, 500));
            same &= call("clock", i);
            same &= call("reading", 1, i, 0, near(), near());
        }
        same &= call("clock", 0);
        while (same && calls < CALLS) {
            String kind = next();
            String[] parts = kind.split(" ", -1);
            boolean tells = parts[2].contains("m") || parts[0].equals("copied") || parts[0].equals("book");
            if (tells && model.count(3) >= fewReadings) {
                continue;
            }
            if (parts[0].equals("rule") && random.nextInt(8) != 0) {
                same = ruleText();
            }
            if (calls < CALLS) {
                same &= call(parts[0], args(parts[0], parts[2]));
            }
        }
        if (!same) {
            System.out.println("run " + run + " went wrong");
        }
    }

    private String next() {
        int all = 0;
        for (String kind : CALL_KINDS) {
            all += Integer.parseInt(kind.split(" ", -1)[1]);
        }
        int at = random.nextInt(all);
        for (String kind : CALL_KINDS) {
            at -= Integer.parseInt(kind.split(" ", -1)[1]);
            if (at < 0) {
                return kind;
            }
        }
        return CALL_KINDS[0];
    }

    private int near() {
        return random.nextInt(20) == 0 ? pick(0, 999999) : pick(0, spread);
    }

    private int[] args(String name, String letters) {
        int[] args = new int[letters.length()];
        for (int i = 0; i < args.length; i++) {
            char letter = letters.charAt(i);
            boolean strange = random.nextInt(odd ? 8 : 60) == 0;
            args[i] = strange ? ODD[random.nextInt(ODD.length)] : arg(letter);
            if (letter == 'm' && !strange) {
                args[i] = more(args[0], args[3]);
            }
        }
        return args;
    }

    private int more(int kind, int shows) {
        switch (kind) {
            case 3: return pick(1, 4);
            case 4: return Math.min(999999, shows + pick(0, 20));
            case 5: return 1000 * pick(1, 4) + 500 + pick(-99, 99);
            default: return random.nextBoolean() ? Math.max(0, Math.min(999999, shows + pick(-9, 9))) : near();
        }
    }

    private int arg(char letter) {
        switch (letter) {
            case 'a': return pick(1, 3);
            case 'b': return random.nextInt(3) == 0 ? 99999 : pick(-500, 500);
            case 'c': return pick(0, 500);
            case 'S': return pick(0, Math.min(3, Math.max(0, model.count(1) - 1)));
            case 'C': return pick(0, Math.min(5, Math.max(0, model.count(2) - 1)));
            case 't': return near();
            case 'k': return new int[] {1, 2, 3, 3, 3, 3, 4, 4, 5, 5}[random.nextInt(10)];
            case 'H': return random.nextInt(5) == 0 ? pick(0, 5) : pick(0, 1);
            case 'E': return pick(1, 4);
            case 'R': return pick(0, Math.max(0, model.count(3)));
            case 'w': return pick(-1, 9);
            case 'e': return random.nextInt(4) == 0 ? 1 : 0;
            case 'T': return pick(0, 3);
            case 'p': return pick(0, 12);
            case 'n': return pick(0, 14);
            case 'l': return pick(0, 6);
            case 'U': return random.nextInt(5) == 0 ? pick(1, 2) : 0;
            case 'd': return random.nextBoolean() ? 0 : pick(0, 6);
            case 'D': return Math.max(0, model.count(0) + pick(-4, 5));
            case 'r': return pick(0, 16);
            case 'x': return pick(-1, 6);
            case 'v': return random.nextInt(4) == 0 ? pick(-99, 99) : pick(-9, 9);
            case 'z': return pick(0, 2);
            case 'P': return random.nextBoolean() ? pick(0, 400) : pick(0, 99999);
            case 's': return pick(1, 99);
            case 'g': return pick(0, 100);
            case 'h': return pick(0, 12);
            case 'i': return pick(1, 5);
            case 'j': return random.nextBoolean() ? pick(0, 40) : pick(0, 400);
            case 'K': return pick(0, Math.max(0, model.count(7)));
            case 'q': return random.nextInt(3) == 0 ? pick(-1, 3) : 3;
            case 'u': return random.nextInt(4) == 0 ? pick(-8000000, 8000000) : 8 * near() + pick(-3, 9);
            case 'f': return pick(0, 4);
            default: return random.nextInt();
        }
    }

    private boolean ruleText() throws ReflectiveOperationException {
        StringBuilder text = new StringBuilder();
        int clauses = pick(1, 4);
        for (int i = 0; i < clauses; i++) {
            text.append(i > 0 ? ";" : "").append(clause());
        }
        if (random.nextInt(8) == 0) {
            text.setCharAt(random.nextInt(text.length()), "12|&!();h= "
                .charAt(random.nextInt(11)));
        }
        boolean same = true;
        for (int i = 0; i < text.length() && calls < CALLS; i += 4) {
            int n = Math.min(4, text.length() - i);
            int bytes = random.nextInt();
            for (int k = 0; k < n; k++) {
                bytes = bytes << 8 | text.charAt(i + k);
            }
            same &= call("feed", bytes, n);
        }
        return same;
    }

    private String clause() {
        switch (random.nextInt(9)) {
            case 0: return "edges " + new String[] {"1", "12", "4321", "234", "13", "3142"}[random.nextInt(6)];
            case 1: return "blur " + "fml".charAt(random.nextInt(3));
            case 2: return "weigh " + pick(0, 5) + " " + pick(0, 99);
            case 3: return "weigh " + pick(0, 1) + " " + pick(0, 3);
            case 4: return "rest " + (random.nextBoolean() ? pick(0, spread / 4) % 10000 : pick(0, 9999));
            case 5: return "copied";
            case 6: return "withdrawn";
            default: return "strike " + either(0);
        }
    }

    private String either(int deep) {
        StringBuilder e = new StringBuilder();
        int many = random.nextInt(3) == 0 ? 2 : 1;
        for (int i = 0; i < many; i++) {
            e.append(i > 0 ? "|" : "").append(factor(deep));
            if (random.nextInt(3) == 0) {
                e.append('&').append(factor(deep));
            }
        }
        return e.toString();
    }

    private String factor(int deep) {
        int what = random.nextInt(deep > 5 ? 6 : 9);
        switch (what) {
            case 0: return "h=" + pick(0, 2);
            case 1: return "s=" + pick(0, 2);
            case 2: return "e=" + pick(1, 4);
            case 3: return "k=" + pick(3, 6);
            case 4: return "t<" + pick(0, spread / 3);
            case 5: return "t>" + pick(spread / 2, spread);
            case 6: return "(" + either(deep + 1) + ")";
            default: return "!" + factor(deep + 1);
        }
    }
}
