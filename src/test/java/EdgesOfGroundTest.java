import java.util.function.Supplier;

/** The edges that promises 1 to 6 name: a new object, space, near, gang, good, bar. */
public final class EdgesOfGroundTest extends Edge {
    public static void main(String[] args) {
        runAll(EdgesOfGroundTest.class);
    }

    static void p01_new_hasNoSpaces() {
        RefitYard yard = new RefitYard();
        due(0, yard, "count", 1);
        due(NO, yard, "near", 0, 1);
        due(0, yard, "space", 1);
    }

    static void p01_new_hasNoWorks() {
        RefitYard yard = new RefitYard();
        due(0, yard, "count", 2);
        due(0, yard, "count", 3);
        due(0, yard, "count", 4);
        due(NONE, yard, "told", 0, 0);
    }

    static void p01_new_hasNoBars() {
        RefitYard yard = new RefitYard();
        due(0, yard, "count", 5);
        due(YES, yard, "bar", 0, 0, 0);
    }

    static void p01_new_isNothingToAsk() {
        RefitYard yard = new RefitYard();
        dueNoBreak(yard);
        due(0, yard, "end");
        due(0, yard, "bound");
        due(0, yard, "plan");
        due(NONE, yard, "best");
        due(0, yard, "load", 0, 8);
        due(0, yard, "load", 399, 0);
    }

    static void p01_new_takesNothingFromAnother() {
        RefitYard other = Yards.busy();
        RefitYard yard = new RefitYard();
        due(0, yard, "count", 0);
        due(0, yard, "count", 1);
        due(0, yard, "count", 2);
        due(0, yard, "count", 5);
        yard.space(9);
        yard.work(Yards.what(1, 5, 0, 0, 0), NONE);
        due(NO, yard, "may", 0, 0);
        due(Yards.BUSY_WORKS, other, "count", 2);
    }

    static void p02_space_bears1AtLeast() {
        RefitYard yard = new RefitYard();
        due(0, yard, "space", 1);
        Yards.plain(yard, 1);
        Yards.plain(yard, 1);
        due(YES, yard, "may", 0, 0);
        yard.put(0, 0);
        due(NO, yard, "may", 1, 0);
    }

    static void p02_space_bears9AtMost() {
        RefitYard yard = Yards.ofPlain(10, 1);
        for (int w = 0; w < 8; w++) {
            yard.put(w, 0);
        }
        due(YES, yard, "may", 8, 0);
        yard.put(8, 0);
        due(NO, yard, "may", 9, 0);
    }

    static void p02_space_0IsTooFew() {
        refused(Yards::bare, "space", 0);
        refused(Yards::busy, "space", 0);
    }

    static void p02_space_belowZero() {
        for (int wrong : new int[] {-1, -9, LEAST}) {
            refused(Yards::busy, "space", wrong);
        }
    }

    static void p02_space_10AreTooMany() {
        for (int wrong : new int[] {10, 11, MOST}) {
            refused(Yards::busy, "space", wrong);
        }
    }

    static void p02_space_numbersAsTheyCome() {
        RefitYard yard = new RefitYard();
        for (int i = 0; i < 20; i++) {
            due(i, yard, "space", i % 9 + 1);
        }
        due(20, yard, "count", 1);
    }

    static void p02_space_the21stIsRefused() {
        refused(Yards::fullOfSpaces, "space", 1);
        refused(Yards::fullOfSpaces, "space", 9);
    }

    static void p02_space_aRefusedOneTakesNoNumber() {
        RefitYard yard = new RefitYard();
        due(NONE, yard, "space", 0);
        due(NONE, yard, "space", 10);
        due(0, yard, "space", 5);
    }

    static void p03_near_noSuchFirstSpace() {
        for (int wrong : Yards.NO_NUMBERS) {
            refused(Yards::busy, "near", wrong, 0);
        }
        refused(Yards::busy, "near", Yards.BUSY_SPACES, 0);
        refused(Yards::busy, "near", 32, 3);
    }

    static void p03_near_noSuchSecondSpace() {
        for (int wrong : Yards.NO_NUMBERS) {
            refused(Yards::busy, "near", 0, wrong);
        }
        refused(Yards::busy, "near", 0, Yards.BUSY_SPACES);
        refused(Yards::busy, "near", 3, 32);
    }

    static void p03_near_withoutSpaces() {
        refused(Yards::bare, "near", 0, 1);
        refused(Yards::bare, "near", 0, 0);
    }

    static void p03_near_behindTheLastOf20() {
        refused(Yards::fullOfSpaces, "near", 0, 20);
        refused(Yards::fullOfSpaces, "near", 20, 0);
    }

    static void p03_near_theFirstAndTheLast() {
        RefitYard yard = Yards.fullOfSpaces();
        due(YES, yard, "near", 19, 0);
        due(YES, yard, "near", 18, 19);
    }

    static void p03_near_bothAreOne() {
        for (int space = 0; space < Yards.BUSY_SPACES; space++) {
            refused(Yards::busy, "near", space, space);
        }
    }

    static void p03_near_already() {
        refused(Yards::busy, "near", 0, 1);
        refused(Yards::busy, "near", 1, 2);
    }

    static void p03_near_alreadyTheOtherWayRound() {
        refused(Yards::busy, "near", 1, 0);
        refused(Yards::busy, "near", 2, 1);
    }

    static void p03_near_isNotPassedOn() {
        due(YES, Yards.busy(), "near", 0, 2);
        due(YES, Yards.busy(), "near", 2, 0);
    }

    static void p03_near_holdsForBothOfThem() {
        for (int[] pair : new int[][] {{0, 1}, {1, 0}}) {
            RefitYard yard = Yards.ample(2);
            yard.bar(1, 2, 1);
            yard.work(Yards.what(1, 1, 0, 1, 0), NONE);
            yard.work(Yards.what(1, 1, 0, 2, 1), NONE);
            yard.put(0, 0);
            yard.put(1, 1);
            yard.near(pair[0], pair[1]);
            due(NO, yard, "may", 1, 0);
            due(NO, yard, "may", 0, 1);
        }
    }

    static void p04_gang_noSuchTrade() {
        for (int wrong : Yards.NO_NUMBERS) {
            refused(Yards::usedUp, "gang", wrong, 4);
        }
        refused(Yards::usedUp, "gang", 4, 4);
        refused(Yards::usedUp, "gang", 4, 6);
    }

    static void p04_gang_fewerThan0() {
        for (int trade = 0; trade < 4; trade++) {
            refused(Yards::usedUp, "gang", trade, -1);
        }
        refused(Yards::usedUp, "gang", 0, LEAST);
    }

    static void p04_gang_moreThan99() {
        for (int trade = 0; trade < 4; trade++) {
            refused(Yards::usedUp, "gang", trade, 100);
        }
        refused(Yards::usedUp, "gang", 0, MOST);
    }

    static void p04_gang_of0LetsNobodyIn() {
        for (int trade = 0; trade < 4; trade++) {
            RefitYard yard = Yards.ample(1);
            yard.work(Yards.what(1, 1, trade, 0, 0), NONE);
            due(YES, yard, "may", 0, 0);
            due(YES, yard, "gang", trade, 0);
            due(NO, yard, "may", 0, 0);
        }
    }

    /** Eleven works of nine hands, and one of one hand that is asked for. */
    private static RefitYard crowd(int hands) {
        RefitYard yard = Yards.ample(2);
        yard.gang(3, hands);
        yard.work(Yards.what(1, 1, 3, 0, 0), NONE);
        for (int w = 1; w <= 11; w++) {
            yard.work(Yards.what(1, 9, 3, 0, w % 2), NONE);
            yard.put(w, 0);
        }
        return yard;
    }

    static void p04_gang_of99IsTheMost() {
        RefitYard yard = crowd(98);
        dueBreak(yard, 1, 2, 0);
        due(YES, yard, "gang", 3, 99);
        dueNoBreak(yard);
        due(NO, yard, "may", 0, 0);
    }

    static void p04_gang_ofOneTradeOnly() {
        for (int trade = 0; trade < 4; trade++) {
            RefitYard yard = Yards.usedUp();
            yard.gang(trade, 4);
            dueBreak(yard, trade * 6, 2, 0);
            yard.take(trade * 6);
            dueNoBreak(yard);
        }
    }

    static void p04_gang_theSameAgain() {
        changesNothing(YES, Yards::usedUp, "gang", 0, 5);
    }

    static void p04_gang_underThoseThatArePut() {
        RefitYard yard = Yards.usedUp();
        due(YES, yard, "gang", 0, 4);
        due(0, yard, "told", 0, 7);
        due(5, yard, "load", 0, 0);
    }

    static void p05_good_noSuchGood() {
        for (int wrong : Yards.NO_NUMBERS) {
            refused(Yards::usedUp, "good", wrong, 1);
        }
        refused(Yards::usedUp, "good", 4, 1);
        refused(Yards::usedUp, "good", 4, 3);
    }

    static void p05_good_fewerThan0() {
        for (int good = 0; good < 4; good++) {
            refused(Yards::usedUp, "good", good, -1);
        }
        refused(Yards::usedUp, "good", 0, LEAST);
    }

    static void p05_good_moreThan9() {
        for (int good = 0; good < 4; good++) {
            refused(Yards::usedUp, "good", good, 10);
        }
        refused(Yards::usedUp, "good", 0, MOST);
    }

    static void p05_good_of0LetsNobodyIn() {
        for (int good = 0; good < 4; good++) {
            RefitYard yard = Yards.ample(1);
            yard.work(Yards.what(1, 1, 0, 0, 0), good);
            due(YES, yard, "may", 0, 0);
            due(YES, yard, "good", good, 0);
            due(NO, yard, "may", 0, 0);
        }
    }

    static void p05_good_of9IsTheMost() {
        RefitYard yard = Yards.ample(2);
        yard.good(3, 8);
        for (int w = 0; w < 10; w++) {
            yard.work(Yards.what(1, 1, 0, 0, w % 2), 3);
        }
        for (int w = 0; w < 9; w++) {
            yard.put(w, 0);
        }
        dueBreak(yard, 0, 3, 0);
        due(YES, yard, "good", 3, 9);
        dueNoBreak(yard);
        due(NO, yard, "may", 9, 0);
    }

    static void p05_good_ofOneKindOnly() {
        for (int good = 0; good < 4; good++) {
            RefitYard yard = Yards.usedUp();
            yard.good(good, 1);
            dueBreak(yard, good * 6 + 3, 3, 3);
            yard.take(good * 6 + 3);
            dueNoBreak(yard);
        }
    }

    static void p05_good_theSameAgain() {
        changesNothing(YES, Yards::usedUp, "good", 0, 2);
    }

    static void p06_bar_noSuchFirstKind() {
        for (int wrong : Yards.NO_NUMBERS) {
            refused(Yards::busy, "bar", wrong, 0, 0);
        }
        refused(Yards::busy, "bar", 5, 0, 0);
        refused(Yards::busy, "bar", 32, 0, 2);
    }

    static void p06_bar_noSuchSecondKind() {
        for (int wrong : Yards.NO_NUMBERS) {
            refused(Yards::busy, "bar", 0, wrong, 0);
        }
        refused(Yards::busy, "bar", 0, 5, 0);
        refused(Yards::busy, "bar", 0, 32, 2);
    }

    static void p06_bar_noSuchHow() {
        for (int wrong : Yards.NO_NUMBERS) {
            refused(Yards::busy, "bar", 0, 4, wrong);
        }
        refused(Yards::busy, "bar", 0, 4, 3);
    }

    static void p06_bar_already() {
        refused(Yards::busy, "bar", 1, 2, 0);
        refused(Yards::busy, "bar", 1, 3, 1);
    }

    static void p06_bar_alreadyInTheOtherOrder() {
        refused(Yards::busy, "bar", 2, 1, 0);
        refused(Yards::busy, "bar", 3, 1, 1);
    }

    static void p06_bar_alreadyOfOneKind() {
        refused(Yards::busy, "bar", 2, 2, 2);
    }

    static void p06_bar_withAnotherHowIsAnother() {
        RefitYard yard = Yards.busy();
        due(YES, yard, "bar", 1, 2, 1);
        due(YES, yard, "bar", 2, 1, 2);
        due(5, yard, "count", 5);
    }

    /** Three bars of one kind, that kind named first, second, and first again. */
    private static RefitYard threeBars(int how) {
        RefitYard yard = Yards.ample(1);
        yard.bar(1, 2, how);
        yard.bar(3, 1, how);
        yard.bar(1, 4, how);
        return yard;
    }

    static void p06_bar_oneMoreLeavesThoseOfItsKinds() {
        for (int how = 0; how < 3; how++) {
            int same = how;
            for (int kind = 2; kind <= 4; kind++) {
                refused(() -> threeBars(same), "bar", 1, kind, how);
                refused(() -> threeBars(same), "bar", kind, 1, how);
            }
        }
    }

    static void p06_bar_eachOfThoseOfOneKindHolds() {
        for (int kind = 0; kind <= 4; kind++) {
            RefitYard yard = threeBars(0);
            yard.work(Yards.what(1, 1, 0, 1, 0), NONE);
            yard.work(Yards.what(1, 1, 0, kind, 0), NONE);
            yard.put(1, 0);
            due(kind < 2 ? YES : NO, yard, "may", 0, 0);
        }
    }

    static void p06_bar_allThereCanBe() {
        Supplier<RefitYard> all = () -> {
            RefitYard yard = Yards.ample(1);
            for (int n = 0; n < 75; n++) {
                yard.bar(n % 5, n / 5 % 5, n / 25);
            }
            return yard;
        };
        due(45, all.get(), "count", 5);
        refused(all, "bar", 0, 0, 0);
        refused(all, "bar", 4, 4, 2);
    }

    static void p06_bar_ofTheFirstAndTheLastKind() {
        RefitYard yard = Yards.ample(1);
        due(YES, yard, "bar", 4, 0, 0);
        due(1, yard, "count", 5);
        yard.work(Yards.what(1, 1, 0, 0, 0), NONE);
        yard.work(Yards.what(1, 1, 0, 4, 0), NONE);
        yard.put(0, 0);
        due(NO, yard, "may", 1, 0);
    }

    static void p06_bar_holdsForWorksThatAreThere() {
        RefitYard yard = Yards.ofPlain(2, 1);
        yard.put(0, 0);
        yard.put(1, 0);
        dueNoBreak(yard);
        yard.bar(0, 0, 0);
        dueBreak(yard, 0, 5, 0);
    }

    static void p06_bar_holdsForWorksThatComeLater() {
        RefitYard yard = Yards.ample(1);
        yard.bar(0, 0, 0);
        Yards.plain(yard, 1);
        Yards.plain(yard, 1);
        yard.put(0, 0);
        due(NO, yard, "may", 1, 0);
    }
}
