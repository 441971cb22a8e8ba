import java.util.function.Supplier;

/** The edges that promises 7 to 9 name: work, need, tells. */
public final class EdgesOfWorksTest extends Edge {
    public static void main(String[] args) {
        runAll(EdgesOfWorksTest.class);
    }

    private static void refusedWorks(int... wrong) {
        for (int what : wrong) {
            refused(Yards::busy, "work", what, NONE);
            refused(Yards::busy, "work", what, 0);
        }
    }

    private static void comes(int what, int good) {
        due(Yards.BUSY_WORKS, Yards.busy(), "work", what, good);
    }

    static void p07_work_length0() {
        refusedWorks(10000, 93403, 0);
    }

    static void p07_work_length1And40() {
        comes(110000, NONE);
        comes(4010000, NONE);
        RefitYard yard = Yards.ample(1);
        yard.work(4010000, NONE);
        due(40, yard, "told", 0, 0);
    }

    static void p07_work_length41() {
        refusedWorks(4110000, 4193403, 10010000, 2140010000);
    }

    static void p07_work_hands0() {
        refusedWorks(100000, 4003403);
    }

    static void p07_work_hands1And9() {
        RefitYard yard = Yards.ample(1);
        due(0, yard, "work", 110000, NONE);
        due(1, yard, "work", 190000, NONE);
        due(1, yard, "told", 0, 2);
        due(9, yard, "told", 1, 2);
    }

    static void p07_work_trade4() {
        refusedWorks(114000, 119000);
    }

    static void p07_work_trade0And3() {
        RefitYard yard = Yards.ample(1);
        due(0, yard, "work", 110000, NONE);
        due(1, yard, "work", 113000, NONE);
        due(0, yard, "told", 0, 1);
        due(3, yard, "told", 1, 1);
    }

    static void p07_work_kind5() {
        refusedWorks(110500, 110900);
    }

    static void p07_work_kind0And4() {
        RefitYard yard = Yards.ample(1);
        due(0, yard, "work", 110000, NONE);
        due(1, yard, "work", 110400, NONE);
        due(0, yard, "told", 0, 4);
        due(4, yard, "told", 1, 4);
    }

    static void p07_work_noSuchSpace() {
        refusedWorks(110000 + Yards.BUSY_SPACES, 110019, 110020, 110099);
        refused(Yards::bare, "work", 110000, NONE);
        refused(Yards::fullOfSpaces, "work", 110020, NONE);
    }

    static void p07_work_theFirstAndTheLastSpace() {
        RefitYard yard = Yards.fullOfSpaces();
        due(0, yard, "work", 110000, NONE);
        due(1, yard, "work", 110019, NONE);
        due(0, yard, "told", 0, 3);
        due(19, yard, "told", 1, 3);
    }

    static void p07_work_noSuchGood() {
        for (int good : new int[] {-2, 4, 5, 32, 64, LEAST, MOST}) {
            refused(Yards::busy, "work", 110000, good);
        }
    }

    static void p07_work_goodNoneAndTheFirstAndTheLast() {
        RefitYard yard = Yards.ample(1);
        for (int good : new int[] {NONE, 0, 3}) {
            int number = yard.work(110000, good);
            due(good, yard, "told", number, 5);
        }
    }

    static void p07_work_belowZero() {
        refusedWorks(-1, -110000, -100000, LEAST, LEAST + 1);
    }

    static void p07_work_farTooLarge() {
        refusedWorks(MOST, MOST - 1, 2147410000);
    }

    static void p07_work_everyPartAtItsMost() {
        RefitYard yard = Yards.fullOfSpaces();
        due(0, yard, "work", 4093419, 3);
        int[] parts = {40, 3, 9, 19, 4, 3};
        for (int what = 0; what < parts.length; what++) {
            due(parts[what], yard, "told", 0, what);
        }
    }

    static void p07_work_numbersAsTheyCome() {
        RefitYard yard = Yards.ample(1);
        for (int w = 0; w < 40; w++) {
            due(w, yard, "work", 110000, NONE);
        }
        due(40, yard, "count", 2);
    }

    static void p07_work_the41stIsRefused() {
        refused(Yards::fullOfWorks, "work", 110000, NONE);
        refused(Yards::fullOfWorks, "work", 110000, 0);
    }

    static void p07_work_aRefusedOneTakesNoNumber() {
        RefitYard yard = Yards.ample(1);
        due(NONE, yard, "work", 100000, NONE);
        due(NONE, yard, "work", 110000, 4);
        due(0, yard, "work", 110000, NONE);
    }

    static void p07_work_comesOpen() {
        RefitYard yard = Yards.busy();
        int number = Yards.plain(yard, 1);
        due(0, yard, "told", number, 6);
        due(NONE, yard, "told", number, 7);
        due(0, yard, "told", number, 11);
        due(0, yard, "told", number, 12);
    }

    static void p08_need_noSuchFirstWork() {
        for (int wrong : Yards.NO_NUMBERS) {
            refused(Yards::busy, "need", wrong, Yards.LONE);
        }
        refused(Yards::busy, "need", Yards.BUSY_WORKS, Yards.LONE);
    }

    static void p08_need_noSuchSecondWork() {
        for (int wrong : Yards.NO_NUMBERS) {
            refused(Yards::busy, "need", Yards.LONE, wrong);
        }
        refused(Yards::busy, "need", Yards.LONE, Yards.BUSY_WORKS);
    }

    static void p08_need_withoutWorks() {
        refused(Yards::bare, "need", 0, 1);
        refused(Yards::bare, "need", 0, 0);
    }

    static void p08_need_behindTheLastOf40() {
        refused(Yards::fullOfWorks, "need", 0, 40);
        refused(Yards::fullOfWorks, "need", 40, 0);
        due(YES, Yards.fullOfWorks(), "need", 39, 0);
        due(YES, Yards.fullOfWorks(), "need", 0, 39);
    }

    static void p08_need_bothAreOne() {
        refused(Yards::busy, "need", Yards.LONE, Yards.LONE);
        refused(Yards::busy, "need", Yards.OPEN, Yards.OPEN);
    }

    static void p08_need_already() {
        refused(Yards::busy, "need", Yards.OPEN, Yards.PUT);
        refused(Yards::busy, "need", Yards.PUT, Yards.PUT_NOW);
    }

    static void p08_need_alreadySinceItTellsOfIt() {
        refused(Yards::busy, "need", Yards.OPEN_TEST, Yards.OPEN);
        refused(Yards::busy, "need", Yards.AGAIN_TEST, Yards.AGAIN);
    }

    static void p08_need_alreadyByOthersIsNotAlready() {
        due(YES, Yards.busy(), "need", Yards.OPEN, Yards.PUT_NOW);
        due(YES, Yards.busy(), "need", Yards.OPEN_TEST, Yards.PUT_NOW);
    }

    static void p08_need_roundByOne() {
        refused(Yards::busy, "need", Yards.PUT, Yards.OPEN);
        refused(Yards::busy, "need", Yards.AGAIN, Yards.AGAIN_TEST);
    }

    static void p08_need_roundByMore() {
        refused(Yards::busy, "need", Yards.PUT_NOW, Yards.OPEN);
        refused(Yards::busy, "need", Yards.PUT_NOW, Yards.OPEN_TEST);
        refused(Yards::busy, "need", Yards.PUT, Yards.OPEN_TEST);
    }

    /** A chain of all works, the first one at its end. */
    private static RefitYard chain() {
        RefitYard yard = Yards.fullOfWorks();
        for (int w = 1; w < 40; w++) {
            yard.need(w - 1, w);
        }
        return yard;
    }

    static void p08_need_roundByAll() {
        due(40, chain(), "count", 6);
        refused(EdgesOfWorksTest::chain, "need", 39, 0);
        refused(EdgesOfWorksTest::chain, "need", 39, 38);
        refused(EdgesOfWorksTest::chain, "need", 30, 7);
    }

    /** The links come from the middle outwards, so that each one joins two chains. */
    static void p08_need_roundHoweverTheChainGrew() {
        Supplier<RefitYard> joined = () -> {
            RefitYard yard = Yards.ofPlain(8, 1);
            int[][] links = {{0, 1}, {2, 3}, {4, 5}, {6, 7}, {1, 2}, {5, 6}, {3, 4}};
            for (int[] link : links) {
                yard.need(link[0], link[1]);
            }
            return yard;
        };
        for (int low = 0; low < 7; low++) {
            refused(joined, "need", 7, low);
            due(low == 6 ? NO : YES, joined.get(), "need", low, 7);
        }
    }

    static void p08_need_twoWaysAreNotRound() {
        RefitYard yard = Yards.ofPlain(4, 1);
        due(YES, yard, "need", 1, 0);
        due(YES, yard, "need", 2, 0);
        due(YES, yard, "need", 3, 1);
        due(YES, yard, "need", 3, 2);
        due(YES, yard, "need", 3, 0);
        due(3, yard, "told", 3, 11);
    }

    static void p08_need_allOthers() {
        RefitYard yard = Yards.fullOfWorks();
        for (int w = 0; w < 39; w++) {
            due(YES, yard, "need", 39, w);
        }
        due(39, yard, "told", 39, 11);
    }

    static void p08_need_theFirstHasBegun() {
        refused(Yards::busy, "need", Yards.BEGUN, Yards.LONE);
        refused(Yards::busy, "need", Yards.BEGUN_TEST, Yards.LONE);
    }

    static void p08_need_theFirstIsDone() {
        refused(Yards::busy, "need", Yards.DONE, Yards.LONE);
        refused(Yards::busy, "need", Yards.DONE_TEST, Yards.LONE);
    }

    static void p08_need_theFirstIsPutNow() {
        RefitYard yard = Yards.busy();
        due(YES, yard, "need", Yards.PUT_NOW, Yards.LONE);
        due(1, yard, "told", Yards.PUT_NOW, 11);
    }

    static void p08_need_theSecondMayHaveBegun() {
        RefitYard yard = Yards.busy();
        due(YES, yard, "need", Yards.LONE, Yards.BEGUN);
        due(YES, yard, "need", Yards.LONE, Yards.DONE);
        due(YES, yard, "need", Yards.LONE, Yards.PUT);
        due(3, yard, "told", Yards.LONE, 11);
    }

    static void p08_need_ofOneThatIsPutMayBreakRule1() {
        RefitYard yard = Yards.busy();
        due(YES, yard, "need", Yards.PUT_NOW, Yards.LONE);
        dueBreak(yard, Yards.PUT_NOW, 1, Yards.BUSY_NOW);
    }

    static void p09_tells_noSuchTest() {
        for (int wrong : Yards.NO_NUMBERS) {
            refused(Yards::busy, "tells", wrong, Yards.LONE);
        }
        refused(Yards::busy, "tells", Yards.BUSY_WORKS, Yards.LONE);
    }

    static void p09_tells_noSuchWork() {
        for (int wrong : Yards.NO_NUMBERS) {
            refused(Yards::busy, "tells", Yards.OPEN_TEST, wrong);
        }
        refused(Yards::busy, "tells", Yards.OPEN_TEST, Yards.BUSY_WORKS);
    }

    static void p09_tells_withoutWorks() {
        refused(Yards::bare, "tells", 0, 1);
    }

    static void p09_tells_noTest() {
        refused(Yards::busy, "tells", Yards.LONE, Yards.AGAIN);
        refused(Yards::busy, "tells", Yards.AGAIN, Yards.LONE);
        refused(Yards::busy, "tells", Yards.OPEN, Yards.PUT);
    }

    static void p09_tells_noTestOfAnyKindButTheLast() {
        RefitYard yard = Yards.ample(1);
        for (int kind = 0; kind < 5; kind++) {
            yard.work(Yards.what(1, 1, 0, kind, 0), NONE);
        }
        Yards.plain(yard, 1);
        for (int kind = 0; kind < 5; kind++) {
            due(kind == 4 ? YES : NO, yard, "tells", kind, 5);
        }
    }

    static void p09_tells_bothAreOne() {
        refused(Yards::busy, "tells", Yards.OPEN_TEST, Yards.OPEN_TEST);
    }

    static void p09_tells_already() {
        refused(Yards::busy, "tells", Yards.OPEN_TEST, Yards.OPEN);
        refused(Yards::busy, "tells", Yards.PUT_TEST, Yards.PUT);
        refused(Yards::busy, "tells", Yards.AGAIN_TEST, Yards.AGAIN);
    }

    static void p09_tells_round() {
        refused(() -> {
            RefitYard yard = Yards.ofPlain(1, 1);
            Yards.test(yard, 1);
            Yards.test(yard, 1);
            yard.need(0, 1);
            yard.tells(2, 0);
            return yard;
        }, "tells", 1, 2);
    }

    static void p09_tells_ofOneThatNeedsIt() {
        refused(() -> {
            RefitYard yard = Yards.busy();
            yard.need(Yards.LONE, Yards.OPEN_TEST);
            return yard;
        }, "tells", Yards.OPEN_TEST, Yards.LONE);
    }

    static void p09_tells_theTestHasBegun() {
        refused(Yards::busy, "tells", Yards.BEGUN_TEST, Yards.LONE);
    }

    static void p09_tells_theTestIsDone() {
        refused(Yards::busy, "tells", Yards.DONE_TEST, Yards.LONE);
    }

    static void p09_tells_theTestHasBegunAndNeedsIt() {
        refused(() -> {
            RefitYard yard = Yards.ofPlain(1, 1);
            Yards.test(yard, 2);
            yard.need(1, 0);
            yard.put(1, 0);
            yard.go(1);
            return yard;
        }, "tells", 1, 0);
    }

    static void p09_tells_theTestIsPutNow() {
        RefitYard yard = Yards.ofPlain(1, 1);
        Yards.test(yard, 2);
        yard.put(1, 3);
        yard.go(3);
        due(YES, yard, "tells", 1, 0);
    }

    static void p09_tells_itNeedsIt() {
        RefitYard yard = Yards.ofPlain(1, 1);
        Yards.test(yard, 2);
        due(YES, yard, "tells", 1, 0);
        due(1, yard, "told", 1, 11);
        due(1, yard, "told", 1, 8);
        due(2, yard, "told", 0, 9);
        due(NO, yard, "need", 0, 1);
        due(NO, yard, "may", 1, 5);
    }

    static void p09_tells_itMayNeedItAlready() {
        RefitYard yard = Yards.ofPlain(1, 1);
        Yards.test(yard, 2);
        yard.need(1, 0);
        due(YES, yard, "tells", 1, 0);
        due(1, yard, "told", 1, 11);
        due(NO, yard, "tells", 1, 0);
    }

    static void p09_tells_ofOneThatHasBegunOrIsDone() {
        RefitYard yard = Yards.busy();
        due(YES, yard, "tells", Yards.OPEN_TEST, Yards.BEGUN);
        due(YES, yard, "tells", Yards.OPEN_TEST, Yards.DONE);
        due(3, yard, "told", Yards.OPEN_TEST, 11);
    }

    static void p09_tells_ofAnotherTest() {
        due(YES, Yards.busy(), "tells", Yards.OPEN_TEST, Yards.AGAIN_TEST);
    }

    static void p09_tells_whatIsNeededOnlyIsNotToldOf() {
        RefitYard yard = Yards.ofPlain(1, 1);
        Yards.test(yard, 1);
        yard.need(1, 0);
        yard.put(0, 0);
        yard.put(1, 1);
        yard.go(2);
        due(1, yard, "fail", 1);
        due(3, yard, "told", 0, 6);
    }
}
