import java.io.IOException;
import java.lang.reflect.Constructor;
import java.lang.reflect.Executable;
import java.lang.reflect.Field;
import java.lang.reflect.Method;
import java.lang.reflect.Modifier;
import java.nio.file.Files;
import java.nio.file.Path;
import java.util.Set;
import java.util.regex.Matcher;
import java.util.regex.Pattern;

/** The rules of LANGUAGE.md that can be read off the code, by their numbers. */
public final class LanguageTest {
    private static final Check CHECK = new Check("LanguageTest");

    private static final int MOST_CLASSES = 12;
    private static final int MOST_FIELDS = 20;
    private static final int MOST_PARAMETERS = 7;
    private static final int MOST_LINES = 60;

    /** Rule 6, with the words of rules 2, 4 and 5 that no code inside them can have. */
    private static final String[] BANNED = {
        "\\bthrow\\b", "\\bthrows\\b", "\\btry\\b", "\\bcatch\\b", "\\bsynchronized\\b", "\\bassert\\b",
        "\\bpackage\\b", "->", "::", "Exact\\b", "\\bhashCode\\b", "\\bvolatile\\b", "\\bnative\\b", "static \\{"};

    /** All of the library that the class takes: a part of what rule 4 has, without any import. */
    private static final Set<String> TAKEN = Set.of("Long.bitCount", "Math.max", "Math.min");

    private static final Set<Class<?>> NUMBERS =
        Set.of(int.class, long.class, short.class, byte.class, char.class, boolean.class);

    public static void main(String[] args) throws IOException {
        String code = code();
        rule1Classes();
        rule2NoHiddenCode(code);
        rule3Types();
        rule4Library(code);
        rule5StaticFields();
        rule6Words(code);
        rule11Sizes(code);
        CHECK.finish();
    }

    private static String code() throws IOException {
        String text = Files.readString(Path.of("src/main/java/RefitYard.java"));
        return text.replaceAll("(?s)/\\*.*?\\*/", "").replaceAll("//[^\n]*", "");
    }

    private static void rule1Classes() {
        for (Class<?> inside : RefitYard.class.getDeclaredClasses()) {
            int modifiers = inside.getModifiers();
            CHECK.yes("rule 1: " + inside + " is static", Modifier.isStatic(modifiers));
            CHECK.no("rule 1: " + inside + " is seen outside",
                Modifier.isPublic(modifiers) || Modifier.isProtected(modifiers));
            CHECK.due("rule 1: classes inside " + inside, inside.getDeclaredClasses().length, 0);
            for (Method method : inside.getDeclaredMethods()) {
                CHECK.no("rule 1: " + method + " bears a public name", isOfTheFace(method.getName()));
            }
        }
    }

    private static boolean isOfTheFace(String name) {
        for (Method method : RefitYard.class.getDeclaredMethods()) {
            if (Modifier.isPublic(method.getModifiers()) && method.getName().equals(name)) {
                return true;
            }
        }
        return false;
    }

    private static void rule2NoHiddenCode(String code) {
        CHECK.no("rule 2: there is an anonymous class", Pattern.compile("new \\w+\\([^;{]*\\) *\\{").matcher(code).find());
        for (Class<?> type : classes()) {
            for (Method method : type.getDeclaredMethods()) {
                CHECK.no("rule 2: " + method + " is a lambda's", method.isSynthetic());
            }
        }
    }

    private static void rule3Types() {
        for (Class<?> type : classes()) {
            for (Field field : type.getDeclaredFields()) {
                CHECK.yes("rule 3: the type of " + field, mayBe(field.getType()));
            }
            for (Method method : type.getDeclaredMethods()) {
                CHECK.yes("rule 3: the answer of " + method,
                    method.getReturnType() == void.class || mayBe(method.getReturnType()));
            }
        }
    }

    private static boolean mayBe(Class<?> type) {
        if (!type.isArray()) {
            return NUMBERS.contains(type) || isOwn(type);
        }
        Class<?> part = type.getComponentType();
        return part.isArray() ? NUMBERS.contains(part.getComponentType()) : mayBe(part);
    }

    private static boolean isOwn(Class<?> type) {
        return type.getDeclaringClass() == RefitYard.class;
    }

    private static void rule4Library(String code) {
        CHECK.no("rule 4: the code imports something", Pattern.compile("\\bimport\\b").matcher(code).find());
        Matcher call = Pattern.compile("\\b([A-Z]\\w*)\\.(\\w+)").matcher(code);
        while (call.find()) {
            CHECK.yes("rule 4: " + call.group(), TAKEN.contains(call.group()));
        }
    }

    private static void rule5StaticFields() {
        for (Class<?> type : classes()) {
            for (Field field : type.getDeclaredFields()) {
                if (Modifier.isStatic(field.getModifiers())) {
                    CHECK.yes("rule 5: " + field + " is a constant",
                        Modifier.isFinal(field.getModifiers()) && NUMBERS.contains(field.getType()));
                }
            }
        }
    }

    private static void rule6Words(String code) {
        for (String banned : BANNED) {
            CHECK.no("rule 6: the code has " + banned, Pattern.compile(banned).matcher(code).find());
        }
    }

    private static void rule11Sizes(String code) {
        CHECK.yes("rule 11: classes: " + classes().length, classes().length <= MOST_CLASSES);
        for (Class<?> type : classes()) {
            int fields = 0;
            for (Field field : type.getDeclaredFields()) {
                fields += Modifier.isStatic(field.getModifiers()) ? 0 : 1;
            }
            CHECK.yes("rule 11: fields of " + type + ": " + fields, fields <= MOST_FIELDS);
            for (Method method : type.getDeclaredMethods()) {
                fewParameters(method);
            }
            for (Constructor<?> constructor : type.getDeclaredConstructors()) {
                fewParameters(constructor);
            }
        }
        int lines = linesOfTheLongestMethod(code);
        CHECK.yes("rule 11: a method has " + lines + " lines", lines > 1 && lines <= MOST_LINES);
    }

    private static void fewParameters(Executable method) {
        CHECK.yes("rule 11: parameters of " + method, method.getParameterCount() <= MOST_PARAMETERS);
    }

    /** A method begins with a row that ends with ") {" and ends with a brace as far in as that row. */
    private static int linesOfTheLongestMethod(String code) {
        String head = "( {4}| {8})(?! )(?!if|for|while|switch)[^\n]*\\) \\{\n";
        Matcher method = Pattern.compile("(?m)^" + head + "(?:.*\n)*?\\1\\}$").matcher(code);
        int most = 0;
        while (method.find()) {
            most = Math.max(most, method.group().split("\n").length);
        }
        return most;
    }

    private static Class<?>[] classes() {
        Class<?>[] inside = RefitYard.class.getDeclaredClasses();
        Class<?>[] all = new Class<?>[inside.length + 1];
        System.arraycopy(inside, 0, all, 0, inside.length);
        all[inside.length] = RefitYard.class;
        return all;
    }
}
