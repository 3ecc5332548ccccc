import java.lang.reflect.Method;
import java.lang.reflect.Modifier;
import java.util.ArrayList;
import java.util.Comparator;
import java.util.List;
import java.util.Random;
import java.util.function.Supplier;

/** No call throws, whatever its arguments and whatever came ahead of it (rule 7 of LANGUAGE.md). */
public final class WildTest {
    private static final int[] WILD = {
        Integer.MIN_VALUE, Integer.MIN_VALUE + 1, -8000001, -100, -99, -2, -1, 0, 0, 1, 1, 2, 2, 3, 3, 4, 5, 5, 6, 7, 8, 9,
        10, 11, 12, 15, 39, 40, 59, 60, 61, 89, 90, 99, 100, 400, 1500, 4000, 9999, 10000, 99999, 100000, 999999, 1000000,
        8000000, 1 << 30, Integer.MAX_VALUE - 1, Integer.MAX_VALUE};
    private static final int CALLS = 150;

    public static void main(String[] args) {
        List<Method> calls = new ArrayList<>();
        for (Method method : SpotTimers.class.getDeclaredMethods()) {
            if (Modifier.isPublic(method.getModifiers())) {
                calls.add(method);
            }
        }
        calls.sort(Comparator.comparing(Method::getName));
        Random random = new Random(5);
        for (int run = 0; run < 600; run++) {
            for (Supplier<SpotTimers> scene : List.of(Twins.NEW, Twins.USUAL, Twins.FULL)) {
                SpotTimers x = scene.get();
                for (int i = 0; i < CALLS; i++) {
                    Method call = calls.get(random.nextInt(calls.size()));
                    int[] wild = new int[call.getParameterCount()];
                    for (int k = 0; k < wild.length; k++) {
                        wild[k] = WILD[random.nextInt(WILD.length)];
                    }
                    Twins.call(x, call.getName(), wild);
                    Due.due("DAYS are as told", x.count(0) >= 0 && x.count(0) <= 9999);
                }
            }
        }
        Due.end("WildTest");
    }
}
