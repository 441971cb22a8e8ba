import java.lang.reflect.Constructor;
import java.lang.reflect.Field;
import java.lang.reflect.Method;
import java.lang.reflect.Modifier;
import java.util.Set;
import java.util.TreeSet;

/** The face that the document shows, and nothing beside it. */
public final class FaceTest {
    private static final Check CHECK = new Check("FaceTest");

    private static final Set<String> FACE = Set.of(
        "int space(int)", "boolean near(int,int)", "boolean gang(int,int)", "boolean good(int,int)",
        "boolean bar(int,int,int)", "int work(int,int)", "boolean need(int,int)", "boolean tells(int,int)",
        "boolean put(int,int)", "boolean take(int)", "boolean may(int,int)", "int first(int,int)",
        "int why(int)", "int told(int,int)", "int load(int,int)", "int plan()", "int best()", "int end()",
        "int bound()", "int go(int)", "int fail(int)", "int more(int,int)", "int count(int)");

    public static void main(String[] args) {
        members();
        CHECK.finish();
    }

    private static void members() {
        CHECK.yes("the class is public and final",
            Modifier.isPublic(RefitYard.class.getModifiers()) && Modifier.isFinal(RefitYard.class.getModifiers()));
        Set<String> seen = new TreeSet<>();
        Set<String> publicNames = new TreeSet<>();
        for (Method method : RefitYard.class.getDeclaredMethods()) {
            if (!Modifier.isPrivate(method.getModifiers())) {
                seen.add(textOf(method));
                publicNames.add(method.getName());
                CHECK.yes(method + " is public", Modifier.isPublic(method.getModifiers()));
            }
        }
        CHECK.yes("the methods are the document's: " + seen, seen.equals(FACE));
        for (Method method : RefitYard.class.getDeclaredMethods()) {
            boolean isPrivate = Modifier.isPrivate(method.getModifiers());
            CHECK.no(method + " hides behind a public name", isPrivate && publicNames.contains(method.getName()));
        }
        for (Field field : RefitYard.class.getDeclaredFields()) {
            CHECK.yes(field + " is private, or NONE",
                Modifier.isPrivate(field.getModifiers()) || field.getName().equals("NONE"));
        }
        CHECK.due("NONE", RefitYard.NONE, -1);
        Constructor<?>[] constructors = RefitYard.class.getDeclaredConstructors();
        CHECK.due("constructors", constructors.length, 1);
        CHECK.due("parameters of the constructor", constructors[0].getParameterCount(), 0);
    }

    private static String textOf(Method method) {
        StringBuilder text = new StringBuilder();
        for (Class<?> type : method.getParameterTypes()) {
            text.append(text.length() == 0 ? "" : ",").append(type.getSimpleName());
        }
        return method.getReturnType().getSimpleName() + " " + method.getName() + "(" + text + ")";
    }
}
