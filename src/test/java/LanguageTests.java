import java.io.IOException;
import java.lang.reflect.Constructor;
import java.lang.reflect.Field;
import java.lang.reflect.Method;
import java.lang.reflect.Modifier;
import java.nio.file.Files;
import java.nio.file.Path;
import java.util.Arrays;
import java.util.LinkedHashMap;
import java.util.Map;
import java.util.Set;
import java.util.TreeSet;
import java.util.regex.Matcher;
import java.util.regex.Pattern;
import java.util.stream.Collectors;

/** The public face of the document, and the rules of LANGUAGE.md that can be seen in the class or its text. */
public final class LanguageTests {
    private static final Path SOURCE = Path.of("src/main/java/FusedQueries.java");
    private static final Set<String> FACE = Set.of(
        "int REFUSED", "int FULL", "int WRONG", "long NONE", "long STOPPED", "long FAILED", "FusedQueries(int)",
        "int append(int, int)", "int set(int, int, int)", "int clear(int)", "int put(int, int, int)", "int from(int)", "int stage(int, int)",
        "int place()", "int unstage()", "long run(int, int)", "int applied(int)", "int read(int)", "int seen(int)", "int failed()");
    private static final Set<Class<?>> TYPES = Set.of(int.class, long.class, short.class, byte.class, char.class, boolean.class,
        int[].class, long[].class, short[].class, byte[].class, char[].class, boolean[].class);

    private static int wrong = 0;

    private static void must(boolean holds, String rule) {
        if (!holds) {
            wrong++;
            System.out.println("LanguageTests: " + rule);
        }
    }

    private static String types(Class<?>[] types) {
        return Arrays.stream(types).map(Class::getSimpleName).collect(Collectors.joining(", "));
    }

    private static void lookAtFace() {
        Class<?> face = FusedQueries.class;
        must(Modifier.isPublic(face.getModifiers()) && Modifier.isFinal(face.getModifiers()), "1: public and final");
        must(face.getDeclaredClasses().length == 0, "1: no nested class");
        Set<String> found = new TreeSet<>();
        Set<String> publicNames = new TreeSet<>();
        int fields = 0;
        for (Field field : face.getDeclaredFields()) {
            boolean isPublic = Modifier.isPublic(field.getModifiers());
            boolean isStatic = Modifier.isStatic(field.getModifiers());
            must(isPublic || Modifier.isPrivate(field.getModifiers()), "1: " + field.getName() + " is neither public nor private");
            must(TYPES.contains(field.getType()), "2: the type of " + field.getName());
            must(!isStatic || Modifier.isFinal(field.getModifiers()) && Set.of(int.class, long.class).contains(field.getType()), "5: " + field.getName());
            must(!field.getType().isArray() || Modifier.isFinal(field.getModifiers()), "4: the array " + field.getName() + " is not final");
            fields += isStatic ? 0 : 1;
            if (isPublic) {
                must(isStatic, "1: " + field.getName() + " is no constant");
                found.add(field.getType() + " " + field.getName());
            }
        }
        must(fields <= 40, "10: " + fields + " fields");
        for (Constructor<?> constructor : face.getDeclaredConstructors()) {
            found.add("FusedQueries(" + types(constructor.getParameterTypes()) + ")");
        }
        for (Method method : face.getDeclaredMethods()) {
            if (Modifier.isPublic(method.getModifiers())) {
                found.add(method.getReturnType() + " " + method.getName() + "(" + types(method.getParameterTypes()) + ")");
                publicNames.add(method.getName());
            }
        }
        must(found.equals(new TreeSet<>(FACE)), "the face is " + found);
        for (Method method : face.getDeclaredMethods()) {
            boolean isPrivate = Modifier.isPrivate(method.getModifiers());
            must(isPrivate || Modifier.isPublic(method.getModifiers()), "1: " + method.getName() + " is neither public nor private");
            must(!isPrivate || !publicNames.contains(method.getName()), "1: a private method is named " + method.getName());
            must(method.getParameterCount() <= 7, "10: the parameters of " + method.getName());
            must(!method.getReturnType().isArray(), "4: " + method.getName() + " answers an array");
        }
        must(FusedQueries.REFUSED == -1 && FusedQueries.FULL == -2 && FusedQueries.WRONG == -3, "the int constants");
        must(FusedQueries.NONE == 9000000000000000000L && FusedQueries.STOPPED == FusedQueries.NONE + 1 && FusedQueries.FAILED == FusedQueries.NONE + 2, "the long constants");
    }

    private static void lookAtWords(String text) {
        String[] words = {"import", "package", "throws?", "try", "catch", "finally", "synchronized", "assert", "instanceof", "null", "float", "double", "String",
            "Math", "Integer", "Long", "System", "Arrays", "Object", "interface", "enum", "record", "super", "native", "volatile", "var"};
        for (String word : words) {
            must(!Pattern.compile("\\b" + word + "\\b").matcher(text).find(), "2, 3 or 6: the word " + word);
        }
        for (String sign : new String[] {"->", "::", "\"", "][", "@", "static {"}) {
            must(!text.contains(sign), "2, 3 or 6: " + sign);
        }
        must(text.split("\\bclass\\b", -1).length == 2, "1: one class");
        for (String line : text.split("\n")) {
            must(!line.matches(".*\\bnew\\b.*") || line.matches("    private final (int|long|boolean)\\[\\] \\w+ = new \\1\\[[A-Z_]+\\];"), "4: " + line.trim());
        }
    }

    private static Map<String, String> bodies(String text) {
        Map<String, String> bodies = new LinkedHashMap<>();
        Matcher method = Pattern.compile("(?m)^    (?:public|private)[\\w ]* (\\w+)\\([^)]*\\) \\{\n((?:.*\n)*?)    \\}$").matcher(text);
        while (method.find()) {
            must(bodies.put(method.group(1), method.group(2)) == null, "1: two methods named " + method.group(1));
            must(method.group().split("\n").length <= 60, "10: the length of " + method.group(1));
        }
        return bodies;
    }

    private static String argumentsAt(String body, int open) {
        int depth = 0;
        for (int i = open; i < body.length(); i++) {
            depth += body.charAt(i) == '(' ? 1 : body.charAt(i) == ')' ? -1 : 0;
            if (depth == 0) {
                return body.substring(open, i);
            }
        }
        return body.substring(open);
    }

    private static void lookAtCalls(Map<String, String> bodies) {
        Pattern call = Pattern.compile("\\b(" + String.join("|", bodies.keySet()) + ")\\(");
        Map<String, Set<String>> calls = new LinkedHashMap<>();
        bodies.forEach((name, body) -> {
            Set<String> called = new TreeSet<>();
            Matcher found = call.matcher(body);
            while (found.find()) {
                called.add(found.group(1));
                String arguments = argumentsAt(body, found.end() - 1);
                must(!call.matcher(arguments).find(), "10: a call in the arguments of " + found.group(1) + " in " + name);
            }
            calls.put(name, called);
        });
        Map<String, Integer> depths = new LinkedHashMap<>();
        // With no recursion, no chain is longer than there are methods: so many rounds settle all depths.
        for (int round = 0; round <= bodies.size(); round++) {
            calls.forEach((name, called) -> depths.put(name, 1 + called.stream().mapToInt(other -> depths.getOrDefault(other, 1)).max().orElse(0)));
        }
        depths.forEach((name, deep) -> must(deep <= 6, "8 or 10: calls go " + deep + " deep from " + name));
    }

    public static void main(String[] args) throws IOException {
        lookAtFace();
        String text = Files.readString(SOURCE).replaceAll("(?s)/\\*.*?\\*/", "").replaceAll("//[^\n]*", "");
        lookAtWords(text);
        Map<String, String> bodies = bodies(text);
        long declared = Arrays.stream(FusedQueries.class.getDeclaredMethods()).filter(method -> !method.isSynthetic()).count();
        must(bodies.size() == declared + 1, "found " + bodies.size() + " of " + declared + " methods and the constructor");
        lookAtCalls(bodies);
        System.out.println("LanguageTests: " + wrong + " rules broken");
        if (wrong != 0) {
            System.exit(1);
        }
    }
}
