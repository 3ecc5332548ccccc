import java.io.IOException;
import java.lang.reflect.Field;
import java.lang.reflect.Method;
import java.lang.reflect.Modifier;
import java.nio.file.Files;
import java.nio.file.Path;
import java.util.regex.Matcher;
import java.util.regex.Pattern;

/** The public face as the document writes it: types, names and parameters of each call, values of the constants. */
public final class FaceTest {
    private static final int CALLS = 43, CONSTANTS = 6;

    public static void main(String[] args) throws IOException, ReflectiveOperationException {
        String face = faceIn(Files.readString(Path.of("../shared/DOC.md")));
        calls(face);
        constants(face);
        Due.end("FaceTest");
    }

    private static String faceIn(String document) {
        int from = document.indexOf("public final class SpotTimers {");
        int till = document.indexOf("```", Math.max(0, from));
        Due.due("the document has the face", from >= 0 && till > from);
        return from >= 0 && till > from ? document.substring(from, till) : "";
    }

    private static void calls(String face) {
        int found = 0;
        Matcher call = Pattern.compile("public (int|long) (\\w+)\\(([^)]*)\\);").matcher(face);
        while (call.find()) {
            found++;
            Due.due(call.group(), stands(call.group(1), call.group(2), parameters(call.group(3))));
        }
        Due.due("calls of the face", found, CALLS);
    }

    private static Class<?>[] parameters(String told) {
        String[] parts = told.isBlank() ? new String[0] : told.split(",");
        Class<?>[] types = new Class<?>[parts.length];
        for (int i = 0; i < parts.length; i++) {
            types[i] = typeOf(parts[i].trim().split(" ")[0]);
        }
        return types;
    }

    private static Class<?> typeOf(String word) {
        return word.equals("long") ? long.class : int.class;
    }

    private static boolean stands(String type, String name, Class<?>[] parameters) {
        try {
            Method method = SpotTimers.class.getDeclaredMethod(name, parameters);
            return method.getReturnType() == typeOf(type) && method.getModifiers() == Modifier.PUBLIC;
        } catch (NoSuchMethodException missing) {
            return false;
        }
    }

    private static void constants(String face) throws ReflectiveOperationException {
        int found = 0;
        Matcher line = Pattern.compile("public static final (int|long) ([^;]*);").matcher(face);
        while (line.find()) {
            for (String told : line.group(2).split(",")) {
                found++;
                String[] parts = told.trim().split(" = ");
                Field field = SpotTimers.class.getDeclaredField(parts[0]);
                Due.due("type of " + told, field.getType() == typeOf(line.group(1)));
                Due.due("modifiers of " + told, field.getModifiers(),
                    Modifier.PUBLIC | Modifier.STATIC | Modifier.FINAL);
                Due.due(parts[0], field.getLong(null),
                    parts[1].equals("Long.MIN_VALUE") ? Long.MIN_VALUE : Long.parseLong(parts[1]));
            }
        }
        Due.due("constants of the face", found, CONSTANTS);
    }
}
