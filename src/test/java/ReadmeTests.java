import java.io.IOException;
import java.lang.reflect.Method;
import java.nio.file.Files;
import java.nio.file.Path;
import java.util.Arrays;
import java.util.regex.Matcher;
import java.util.regex.Pattern;

/** The examples of README.md: each call answers the first word of the comment behind it. */
public final class ReadmeTests extends Bench {
    private static final Pattern EXAMPLE = Pattern.compile("(?s)```java\n(.*?)```");
    private static final Pattern OBJECT = Pattern.compile("FusedQueries q = new FusedQueries\\((-?\\d+)\\); *//.*");
    private static final Pattern CALL = Pattern.compile("q\\.(\\w+)\\(([-\\d, ]*)\\); *// (-?\\d+|[A-Z]+)\\b.*");

    private static String answer(FusedQueries q, String name, String listed) throws ReflectiveOperationException {
        String[] words = listed.isEmpty() ? new String[0] : listed.split(", ");
        Class<?>[] types = new Class<?>[words.length];
        Arrays.fill(types, int.class);
        Method method = FusedQueries.class.getMethod(name, types);
        Object[] arguments = Arrays.stream(words).map(Integer::valueOf).toArray();
        return method.invoke(q, arguments).toString();
    }

    private static String meant(String word) throws ReflectiveOperationException {
        boolean isName = Character.isLetter(word.charAt(0));
        return isName ? FusedQueries.class.getField(word).get(null).toString() : word;
    }

    private static void follow(String example) throws ReflectiveOperationException {
        String[] lines = example.split("\n");
        Matcher object = OBJECT.matcher(lines[0]);
        due("an example begins with a new object", object.matches(), true);
        FusedQueries q = new FusedQueries(Integer.parseInt(object.group(1)));
        for (int i = 1; i < lines.length; i++) {
            Matcher call = CALL.matcher(lines[i]);
            boolean isCall = call.matches();
            due("a call with its answer: " + lines[i], isCall, true);
            if (isCall) {
                due(lines[i], answer(q, call.group(1), call.group(2)), meant(call.group(3)));
            }
        }
    }

    public static void main(String[] args) throws IOException, ReflectiveOperationException {
        about("README.md");
        Matcher example = EXAMPLE.matcher(Files.readString(Path.of("README.md")));
        int examples = 0;
        while (example.find()) {
            follow(example.group(1));
            examples++;
        }
        due("there are examples", examples > 0, true);
        end("ReadmeTests");
    }
}
