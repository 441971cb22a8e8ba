import java.util.ArrayList;
import java.util.List;

/**
 * All that can be found out of a yard, also what it tells only by how it goes on: which spaces are
 * near, which bars are there, what tests tell of. It comes in parts, each for a yard of its own,
 * since asking changes the yard, and since a yard is good for 512 calls only.
 */
final class Picture {
    static final int PARTS = 9;

    private static final int MOST_ROWS = 400;
    private static final int WORKS = 40;
    private static final int SPACES = 20;
    private static final int KINDS = 5;
    private static final int SHIFTS = 400;

    private final RefitYard yard;
    private final List<String> rows = new ArrayList<>();

    private Picture(RefitYard yard) {
        this.yard = yard;
    }

    static List<String> take(RefitYard yard, int part) {
        Picture picture = new Picture(yard);
        switch (part) {
            case 0 -> picture.askCounts();
            case 1 -> picture.askWorks(0, WORKS / 2);
            case 2 -> picture.askWorks(WORKS / 2, WORKS);
            case 3 -> picture.askShifts();
            case 4 -> picture.askLoads();
            case 5 -> picture.askPlaces();
            case 6 -> picture.askNeeds();
            case 7 -> picture.askFailures();
            default -> picture.askPlans();
        }
        if (picture.rows.size() > MOST_ROWS) {
            throw new IllegalStateException("part " + part + " has too many calls");
        }
        return picture.rows;
    }

    private void ask(String name, int... arguments) {
        rows.add(Calls.text(name, arguments) + " = " + Calls.answer(yard, name, arguments));
    }

    private void askBreak() {
        for (int what = 0; what < 3; what++) {
            ask("why", what);
        }
    }

    private void askCounts() {
        for (int what = 0; what < 7; what++) {
            ask("count", what);
        }
        askBreak();
        ask("end");
        ask("bound");
        for (int a = 0; a < SPACES; a++) {
            for (int b = a + 1; b < SPACES; b++) {
                ask("near", a, b);
            }
        }
        for (int how = 0; how < 3; how++) {
            for (int a = 0; a < KINDS; a++) {
                for (int b = a; b < KINDS; b++) {
                    ask("bar", a, b, how);
                }
            }
        }
        for (int i = 0; i <= SPACES; i++) {
            ask("space", 1);
        }
    }

    private void askWorks(int from, int to) {
        for (int w = from; w < to; w++) {
            for (int what = 0; what <= 12; what++) {
                ask("told", w, what);
            }
        }
        ask("work", 110000, RefitYard.NONE);
    }

    private void askShifts() {
        for (int shift = 0; shift < SHIFTS; shift++) {
            ask("load", shift, 8);
        }
    }

    private void askLoads() {
        for (int i = 0; i < 25; i++) {
            for (int what = 0; what < 8; what++) {
                ask("load", i, what);
                ask("load", SHIFTS - 1 - i, what);
            }
        }
    }

    private void askPlaces() {
        int now = yard.count(0);
        for (int w = 0; w < WORKS; w++) {
            ask("first", w, 0);
            ask("first", w, now + 20);
            for (int s = 0; s < 6; s++) {
                ask("may", w, now + s);
            }
        }
    }

    private void askNeeds() {
        for (int w = 0; w < 14; w++) {
            for (int other = 0; other < 14; other++) {
                ask("tells", w, other);
                ask("need", w, other);
            }
        }
    }

    private void askFailures() {
        ask("go", SHIFTS);
        for (int w = 0; w < WORKS; w++) {
            ask("fail", w);
        }
        for (int w = 0; w < WORKS; w++) {
            ask("told", w, 6);
            ask("told", w, 12);
        }
    }

    private void askPlans() {
        ask("plan");
        askBreak();
        for (int w = 0; w < WORKS; w++) {
            ask("told", w, 7);
        }
        for (int w = 0; w < WORKS; w++) {
            ask("take", w);
        }
        ask("best");
        for (int w = 0; w < WORKS; w++) {
            ask("told", w, 7);
        }
        ask("go", 0);
    }
}
