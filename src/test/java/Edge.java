import java.lang.reflect.InvocationTargetException;
import java.lang.reflect.Method;
import java.util.Arrays;
import java.util.Comparator;
import java.util.List;
import java.util.function.Supplier;

/**
 * What the tests of single edges share. Each edge is a method of its own, named by its promise
 * (p07_ for promise 7, t2_ for the second of the terms) and its case.
 */
abstract class Edge {
    static final int NONE = RefitYard.NONE;
    static final int NO = 0;
    static final int YES = 1;
    static final int LEAST = Integer.MIN_VALUE;
    static final int MOST = Integer.MAX_VALUE;

    private static Check check;
    private static String edge;
    private static int asked;

    static void runAll(Class<? extends Edge> edges) {
        check = new Check(edges.getSimpleName());
        Method[] methods = edges.getDeclaredMethods();
        Arrays.sort(methods, Comparator.comparing(Method::getName));
        int many = 0;
        for (Method method : methods) {
            if (method.getName().matches("(p\\d\\d|t\\d)_.*")) {
                run(method);
                many++;
            }
        }
        System.out.println(edges.getSimpleName() + ": " + many + " edges");
        check.finish();
    }

    private static void run(Method method) {
        edge = method.getName();
        asked = 0;
        try {
            method.invoke(null);
        } catch (InvocationTargetException e) {
            throw new IllegalStateException(edge + " threw", e.getCause());
        } catch (IllegalAccessException e) {
            throw new IllegalStateException(edge + " can't be run", e);
        }
        check.yes(edge + ": asks something", asked > 0);
    }

    static void due(long want, RefitYard yard, String name, int... arguments) {
        asked++;
        check.due(edge + ": " + Calls.text(name, arguments), Calls.answer(yard, name, arguments), want);
    }

    static void dueBreak(RefitYard yard, int work, int rule, int shift) {
        due(work, yard, "why", 0);
        due(rule, yard, "why", 1);
        due(shift, yard, "why", 2);
    }

    static void dueNoBreak(RefitYard yard) {
        dueBreak(yard, NONE, NONE, NONE);
    }

    static void refused(Supplier<RefitYard> start, String name, int... arguments) {
        changesNothing(Calls.refusal(name), start, name, arguments);
    }

    /** One yard is asked, its twin is not: whatever they are asked then, they answer alike. */
    static void changesNothing(long want, Supplier<RefitYard> start, String name, int... arguments) {
        due(want, start.get(), name, arguments);
        for (int part = 0; part < Picture.PARTS; part++) {
            RefitYard yard = start.get();
            Calls.answer(yard, name, arguments);
            String call = edge + ": after " + Calls.text(name, arguments) + ", ";
            dueAlike(call, Picture.take(yard, part), Picture.take(start.get(), part));
        }
    }

    private static void dueAlike(String call, List<String> got, List<String> want) {
        int row = 0;
        while (row < got.size() && row < want.size() && got.get(row).equals(want.get(row))) {
            row++;
        }
        boolean alike = row == got.size() && row == want.size();
        String where = alike || row >= got.size() ? "" : got.get(row);
        check.yes(call + "the twin still answers alike: " + where, alike);
    }
}
