import java.io.IOException;
import java.lang.reflect.Method;
import java.lang.reflect.Modifier;
import java.nio.file.Files;
import java.nio.file.Path;
import java.util.HashMap;
import java.util.Map;
import java.util.regex.Matcher;
import java.util.regex.Pattern;

/**
 * What README.md says of the class is so: every call of the face stands in it, and its example
 * answers as its comments say ("// 3: .." after a call is the answer that is due).
 */
public final class ReadmeTest {
    private static final Check CHECK = new Check("ReadmeTest");
    private static final Pattern EXAMPLE = Pattern.compile("(?s)```java\n(.*?)```");
    private static final Pattern ROW =
        Pattern.compile("(?:int (\\w+) = )?yard\\.(\\w+)\\(([^()]*)\\);\\s*// (-?\\d+|true|false): .*");
    private static final String MAKING = "RefitYard yard = new RefitYard();";

    private final RefitYard yard = new RefitYard();
    private final Map<String, Integer> names = new HashMap<>();

    private ReadmeTest() {
        names.put("RefitYard.NONE", RefitYard.NONE);
    }

    public static void main(String[] args) throws IOException {
        String text = Files.readString(Path.of("README.md"));
        everyCallIsThere(text);
        Matcher example = EXAMPLE.matcher(text);
        CHECK.yes("README.md has an example", example.find());
        new ReadmeTest().run(example.group(1));
        CHECK.finish();
    }

    private static void everyCallIsThere(String text) {
        for (Method method : RefitYard.class.getDeclaredMethods()) {
            if (Modifier.isPublic(method.getModifiers())) {
                CHECK.yes("README.md tells of " + method.getName() + "()", text.contains("`" + method.getName() + "("));
            }
        }
    }

    private void run(String example) {
        int calls = 0;
        for (String row : example.split("\n")) {
            Matcher matcher = ROW.matcher(row);
            if (matcher.matches()) {
                ask(row, matcher);
                calls++;
            } else {
                CHECK.yes("can be read: " + row, row.isBlank() || row.equals(MAKING));
            }
        }
        CHECK.yes("the example calls something", calls > 0);
    }

    private void ask(String row, Matcher matcher) {
        String[] parts = matcher.group(3).isBlank() ? new String[0] : matcher.group(3).split(",");
        int[] arguments = new int[parts.length];
        for (int i = 0; i < parts.length; i++) {
            arguments[i] = sum(parts[i]);
        }
        long got = Calls.answer(yard, matcher.group(2), arguments);
        String want = matcher.group(4);
        CHECK.due(row, got, want.equals("true") ? 1 : want.equals("false") ? 0 : Long.parseLong(want));
        if (matcher.group(1) != null) {
            names.put(matcher.group(1), (int) got);
        }
    }

    private int sum(String text) {
        int sum = 0;
        for (String part : text.split("\\+")) {
            String word = part.strip();
            sum += names.containsKey(word) ? names.get(word) : Integer.parseInt(word);
        }
        return sum;
    }
}
