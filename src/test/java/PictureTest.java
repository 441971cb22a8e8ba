import java.util.function.Supplier;

/** The pictures themselves: every change that a call can make shows in one, and no change shows where none is. */
public final class PictureTest {
    private static final Check CHECK = new Check("PictureTest");

    public static void main(String[] args) {
        states();
        for (Supplier<RefitYard> start : java.util.List.<Supplier<RefitYard>>of(
                Yards::bare, Yards::busy, Yards::usedUp, Yards::fullOfSpaces, Yards::fullOfWorks)) {
            CHECK.no("two yards that are alike differ", differs(start, "count", 0));
        }
        CHECK.yes("space", differs(Yards::busy, "space", 1));
        CHECK.yes("near", differs(Yards::busy, "near", 0, 2));
        CHECK.yes("bar", differs(Yards::busy, "bar", 4, 4, 0));
        CHECK.yes("work", differs(Yards::busy, "work", 110000, RefitYard.NONE));
        CHECK.yes("need", differs(Yards::busy, "need", Yards.LONE, Yards.AGAIN));
        CHECK.yes("tells", differs(Yards::busy, "tells", Yards.OPEN_TEST, Yards.LONE));
        CHECK.yes("put", differs(Yards::busy, "put", Yards.LONE, 9));
        CHECK.yes("take", differs(Yards::busy, "take", Yards.PUT));
        CHECK.yes("plan", differs(Yards::busy, "plan"));
        CHECK.yes("go", differs(Yards::busy, "go", 1));
        CHECK.yes("fail", differs(Yards::busy, "fail", Yards.DONE_TEST));
        CHECK.yes("more", differs(Yards::busy, "more", Yards.BEGUN, 1));
        CHECK.yes("best", differs(() -> Yards.ofPlain(6, 1), "best"));
        gangsAndGoods();
        CHECK.finish();
    }

    private static void gangsAndGoods() {
        for (int k = 0; k < 4; k++) {
            CHECK.yes("gang(" + k + ", 4)", differs(Yards::usedUp, "gang", k, 4));
            CHECK.yes("gang(" + k + ", 6)", differs(Yards::usedUp, "gang", k, 6));
            CHECK.no("gang(" + k + ", 5)", differs(Yards::usedUp, "gang", k, 5));
            CHECK.yes("good(" + k + ", 1)", differs(Yards::usedUp, "good", k, 1));
            CHECK.yes("good(" + k + ", 3)", differs(Yards::usedUp, "good", k, 3));
            CHECK.no("good(" + k + ", 2)", differs(Yards::usedUp, "good", k, 2));
        }
    }

    /** The busy yard is what its names say, without which the edges would ask about something else. */
    private static void states() {
        int[] states = {3, 3, 3, 2, 2, 1, 1, 1, 0, 0, 0, 0, 0};
        RefitYard yard = Yards.busy();
        for (int w = 0; w < states.length; w++) {
            CHECK.due("the state of " + w, yard.told(w, 6), states[w]);
            CHECK.due("how often " + w + " was opened", yard.told(w, 12),
                w == Yards.AGAIN || w == Yards.AGAIN_TEST ? 1 : 0);
        }
        CHECK.due("works", yard.count(2), Yards.BUSY_WORKS);
        CHECK.due("spaces", yard.count(1), Yards.BUSY_SPACES);
        CHECK.due("now", yard.count(0), Yards.BUSY_NOW);
        CHECK.due("the one that is put now", yard.told(Yards.PUT_NOW, 7), Yards.BUSY_NOW);
        CHECK.due("breaks", yard.why(0), RefitYard.NONE);
    }

    private static boolean differs(Supplier<RefitYard> start, String name, int... arguments) {
        boolean differs = false;
        for (int part = 0; part < Picture.PARTS; part++) {
            RefitYard yard = start.get();
            Calls.answer(yard, name, arguments);
            differs |= !Picture.take(yard, part).equals(Picture.take(start.get(), part));
        }
        return differs;
    }
}
