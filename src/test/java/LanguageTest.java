import java.io.IOException;
import java.lang.reflect.Constructor;
import java.lang.reflect.Field;
import java.lang.reflect.Method;
import java.lang.reflect.Modifier;
import java.nio.file.Files;
import java.nio.file.Path;
import java.util.HashSet;
import java.util.List;
import java.util.Map;
import java.util.Set;
import java.util.TreeMap;
import java.util.TreeSet;
import java.util.regex.Matcher;
import java.util.regex.Pattern;

/** Rules of LANGUAGE.md that the source or the compiled face can tell. */
public final class LanguageTest {
    private static final String FACE = "pass station clock stop reading number copied withdraw of time longitude seen like"
        + " book ended letter has feed rule ruled counted counts table lever sum distance rest blunders tooWell place go"
        + " lost difference beside act trace taken count tape item blank read shift";
    private static final String[] BARRED = {
        "throw", "throws", "try", "catch", "finally", "synchronized", "assert", "package", "double", "float", "->", "::",
        "Object", "HashMap", "String.valueOf", "Exact", "System.out", "Random", "Thread", "record", "static {"};

    public static void main(String[] args) throws IOException {
        face();
        source(Files.readString(Path.of(args.length > 0 ? args[0] : "src/main/java/SpotTimers.java")));
        Due.end("LanguageTest");
    }

    private static void face() {
        Set<String> want = new TreeSet<>(Set.of(FACE.split(" ")));
        Set<String> got = new TreeSet<>();
        for (Method method : SpotTimers.class.getDeclaredMethods()) {
            if (Modifier.isPublic(method.getModifiers())) {
                Due.due(method.getName() + " stands once", got.add(method.getName()));
            } else {
                Due.due(method.getName() + " is private", Modifier.isPrivate(method.getModifiers()));
                Due.due(method.getName() + " is no public name", !want.contains(method.getName()));
            }
        }
        Due.due("the face is the document's: " + got, got.equals(want));
        Set<String> constants = new HashSet<>();
        for (Field field : SpotTimers.class.getDeclaredFields()) {
            if (!Modifier.isPrivate(field.getModifiers())) {
                constants.add(field.getName());
            }
        }
        Due.due("constants " + constants, constants.equals(Set.of("NONE", "BAD", "STATE", "FULL", "NO", "FAR")));
        Constructor<?>[] made = SpotTimers.class.getDeclaredConstructors();
        Due.due("one constructor", made.length == 1 && Modifier.isPublic(made[0].getModifiers()));
        Due.due("final", Modifier.isFinal(SpotTimers.class.getModifiers()));
        Due.due("at most 12 classes", SpotTimers.class.getDeclaredClasses().length < 12);
        for (Class<?> inside : SpotTimers.class.getDeclaredClasses()) {
            Due.due(inside + " is static", Modifier.isStatic(inside.getModifiers()));
            int fields = 0;
            for (Field field : inside.getDeclaredFields()) {
                fields += Modifier.isStatic(field.getModifiers()) ? 0 : 1;
            }
            Due.due(inside + " has at most 20 fields", fields <= 20);
            for (Method method : inside.getDeclaredMethods()) {
                Due.due(method + " takes at most 7", method.getParameterCount() <= 7);
                Due.due(method + " is no public name", !want.contains(method.getName()));
            }
        }
        Due.due("FAR", SpotTimers.FAR, Long.MIN_VALUE);
    }

    private static void source(String text) {
        String code = text.replaceAll("(?s)/\\*.*?\\*/", " ").replaceAll("//[^\n]*", " ")
            .replaceAll("\"(\\\\.|[^\"\\\\])*\"", "\"\"");
        for (String word : BARRED) {
            boolean name = Character.isLetter(word.charAt(0)) && Character.isLetter(word.charAt(word.length() - 1));
            Pattern pattern = Pattern.compile(name ? "\\b" + Pattern.quote(word) + "\\b" : Pattern.quote(word));
            Due.due("the source has no " + word, !pattern.matcher(code).find());
        }
        Matcher imports = Pattern.compile("import ([^;]*);").matcher(code);
        while (imports.find()) {
            Due.due("import " + imports.group(1),
                Set.of("java.util.ArrayList", "java.util.Arrays", "java.util.List").contains(imports.group(1)));
        }
        methodsAreShort(text.split("\n", -1));
        callsAreShallow(code);
    }

    /** Calls that are no recursion go at most eight deep, the public call among them. */
    private static void callsAreShallow(String code) {
        Map<String, Set<String>> calls = new TreeMap<>();
        Matcher heads = Pattern.compile("(?m)^( {4}| {8})(?:(?:public|private|static|final) )*[\\w<>\\[\\]]+ (\\w+)"
            + "\\([^)]*\\) \\{$").matcher(code);
        while (heads.find()) {
            int end = code.indexOf("\n" + heads.group(1) + "}", heads.end());
            Set<String> called = calls.computeIfAbsent(heads.group(2), name -> new TreeSet<>());
            Matcher call = Pattern.compile("(\\w+)\\(").matcher(code.substring(heads.end(), end));
            while (call.find()) {
                called.add(call.group(1));
            }
        }
        Due.due("the methods are found", calls.size() > 100 && calls.keySet().containsAll(List.of(FACE.split(" "))));
        for (String name : FACE.split(" ")) {
            int deep = depth(calls, name, new HashSet<>());
            Due.due(name + " calls " + deep + " deep", deep <= 8);
        }
    }

    private static int depth(Map<String, Set<String>> calls, String name, Set<String> open) {
        int deepest = 0;
        open.add(name);
        for (String called : calls.get(name)) {
            if (calls.containsKey(called) && !open.contains(called)) {
                deepest = Math.max(deepest, depth(calls, called, open));
            }
        }
        open.remove(name);
        return deepest + 1;
    }

    /** A method stands at an indent of 4 or 8 and ends with the next } of the same indent. */
    private static void methodsAreShort(String[] lines) {
        for (int i = 0; i < lines.length; i++) {
            Matcher head = Pattern.compile("( {4}| {8})(?!if|for|while|switch|private static final class)"
                + "[A-Za-z].*\\).*\\{").matcher(lines[i]);
            if (head.matches()) {
                int end = i;
                while (end < lines.length && !lines[end].equals(head.group(1) + "}")) {
                    end++;
                }
                Due.due("the method at line " + (i + 1) + " has at most 60 lines", end - i < 60);
            }
        }
    }
}
