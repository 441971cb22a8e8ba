import java.util.function.Supplier;

/** The edges that promises 21 to 23 name: go, fail, more. */
public final class EdgesOfTimeTest extends Edge {
    public static void main(String[] args) {
        runAll(EdgesOfTimeTest.class);
    }

    private static RefitYard at(int now) {
        RefitYard yard = Yards.ofPlain(3, 2);
        yard.put(0, 397);
        yard.put(1, 398);
        yard.go(now);
        return yard;
    }

    static void p21_go_below0() {
        for (int wrong : new int[] {-1, -5, -400, LEAST}) {
            refused(Yards::busy, "go", wrong);
            refused(Yards::bare, "go", wrong);
        }
    }

    static void p21_go_moreThan400() {
        for (int wrong : new int[] {401, 800, MOST}) {
            refused(Yards::busy, "go", wrong);
            refused(Yards::bare, "go", wrong);
        }
    }

    /** NOW and n together would come to a shift again. */
    static void p21_go_thatWrapsAround() {
        for (int wrong : new int[] {MOST, MOST - 400, LEAST, LEAST + 400}) {
            refused(() -> at(400), "go", wrong);
        }
    }

    static void p21_go_0() {
        changesNothing(Yards.BUSY_NOW, Yards::busy, "go", 0);
        changesNothing(0, Yards::bare, "go", 0);
    }

    static void p21_go_400() {
        RefitYard yard = at(0);
        due(400, yard, "go", 400);
        due(400, yard, "count", 0);
    }

    static void p21_go_toTheLastShift() {
        RefitYard yard = at(0);
        due(399, yard, "go", 399);
        due(2, yard, "told", 1, 6);
        due(3, yard, "told", 0, 6);
    }

    static void p21_go_beyond400() {
        due(400, at(399), "go", 2);
        due(400, at(1), "go", 400);
        due(400, at(399), "go", 400);
        RefitYard yard = at(398);
        yard.go(5);
        due(400, yard, "count", 0);
    }

    static void p21_go_justTo400() {
        due(400, at(399), "go", 1);
        due(399, at(398), "go", 1);
    }

    static void p21_go_from400() {
        for (int n : new int[] {0, 1, 400}) {
            changesNothing(400, () -> at(400), "go", n);
        }
    }

    static void p21_go_addsUp() {
        RefitYard yard = at(0);
        due(3, yard, "go", 3);
        due(7, yard, "go", 4);
        due(7, yard, "count", 0);
    }

    static void p22_fail_noSuchTest() {
        for (int wrong : Yards.NO_NUMBERS) {
            refused(Yards::busy, "fail", wrong);
        }
        refused(Yards::busy, "fail", Yards.BUSY_WORKS);
        refused(Yards::bare, "fail", 0);
    }

    static void p22_fail_isNoTest() {
        refused(Yards::busy, "fail", Yards.DONE);
        refused(Yards::busy, "fail", Yards.DONE_TOO);
        refused(Yards::busy, "fail", Yards.LONE);
    }

    static void p22_fail_isNoTestButOfAnotherKind() {
        for (int kind = 0; kind < 4; kind++) {
            int other = kind;
            refused(() -> {
                RefitYard yard = Yards.ample(1);
                yard.work(Yards.what(1, 1, 0, other, 0), NONE);
                yard.put(0, 0);
                yard.go(1);
                return yard;
            }, "fail", 0);
        }
    }

    static void p22_fail_isOpen() {
        refused(Yards::busy, "fail", Yards.OPEN_TEST);
        refused(Yards::busy, "fail", Yards.AGAIN_TEST);
    }

    static void p22_fail_isPut() {
        refused(Yards::busy, "fail", Yards.PUT_TEST);
    }

    static void p22_fail_hasBegun() {
        refused(Yards::busy, "fail", Yards.BEGUN_TEST);
    }

    /** A test of length 2 at shift 3. */
    private static RefitYard testAt3(int now) {
        RefitYard yard = Yards.ample(1);
        Yards.test(yard, 2);
        yard.put(0, 3);
        yard.go(now);
        return yard;
    }

    static void p22_fail_itsEndIsJustAboveNow() {
        refused(() -> testAt3(4), "fail", 0);
        refused(() -> testAt3(3), "fail", 0);
    }

    static void p22_fail_itsEndIsNow() {
        due(1, testAt3(5), "fail", 0);
    }

    static void p22_fail_nowIs400() {
        due(1, testAt3(400), "fail", 0);
    }

    static void p22_fail_itTellsOfNothing() {
        RefitYard yard = testAt3(5);
        due(1, yard, "fail", 0);
        due(0, yard, "told", 0, 6);
        due(NONE, yard, "told", 0, 7);
        due(1, yard, "told", 0, 12);
        due(0, yard, "load", 3, 8);
        due(0, yard, "load", 4, 0);
    }

    static void p22_fail_again() {
        refused(() -> {
            RefitYard yard = Yards.busy();
            yard.fail(Yards.DONE_TEST);
            return yard;
        }, "fail", Yards.DONE_TEST);
    }

    static void p22_fail_whatItNeedsOnlyStaysDone() {
        RefitYard yard = Yards.ofPlain(2, 1);
        Yards.test(yard, 1);
        yard.tells(2, 0);
        yard.need(2, 1);
        yard.put(0, 0);
        yard.put(1, 0);
        yard.put(2, 1);
        yard.go(2);
        due(2, yard, "fail", 2);
        dueStates(yard, 0, 3, 0);
    }

    static void p22_fail_whatATestNeedsThroughOthersStaysDone() {
        RefitYard yard = Yards.busy();
        due(2, yard, "fail", Yards.DONE_TEST);
        due(3, yard, "told", Yards.DONE, 6);
        due(0, yard, "told", Yards.DONE_TOO, 6);
    }

    private static void dueStates(RefitYard yard, int... states) {
        for (int w = 0; w < states.length; w++) {
            due(states[w], yard, "told", w, 6);
        }
    }

    private static void dueOpenedAgain(RefitYard yard, int... times) {
        for (int w = 0; w < times.length; w++) {
            due(times[w], yard, "told", w, 12);
        }
    }

    /** Test 4 is done, and fails: of 0 to 3, one is open, one put, one has begun, and one is done. */
    private static void dueOnlyTheDoneOneOpened(RefitYard yard) {
        yard.put(1, 6);
        yard.put(2, 5);
        yard.put(3, 4);
        yard.put(4, 0);
        yard.go(6);
        due(2, yard, "fail", 4);
        dueStates(yard, 0, 1, 2, 0, 0);
        dueOpenedAgain(yard, 0, 0, 0, 1, 1);
        due(6, yard, "told", 1, 7);
        due(5, yard, "told", 2, 7);
    }

    static void p22_fail_whatItTellsOfAsFarAsItIsDone() {
        RefitYard yard = Yards.ofPlain(4, 2);
        Yards.test(yard, 1);
        for (int w = 0; w < 4; w++) {
            yard.tells(4, w);
        }
        dueOnlyTheDoneOneOpened(yard);
    }

    static void p22_fail_whatNeedsItAsFarAsItIsDone() {
        RefitYard yard = Yards.ofPlain(4, 2);
        Yards.test(yard, 1);
        for (int w = 0; w < 4; w++) {
            yard.need(w, 4);
        }
        dueOnlyTheDoneOneOpened(yard);
    }

    static void p22_fail_whatNeedsWhatItTellsOf() {
        RefitYard yard = Yards.ofPlain(2, 1);
        Yards.test(yard, 1);
        yard.tells(2, 0);
        yard.need(1, 0);
        for (int w = 0; w < 3; w++) {
            yard.put(w, w);
        }
        yard.go(3);
        due(3, yard, "fail", 2);
        dueStates(yard, 0, 0, 0);
    }

    /** All 40 works in a chain, upwards or downwards by their numbers: the one under all fails. */
    static void p22_fail_throughAChainOfAll() {
        for (int step : new int[] {1, -1}) {
            RefitYard yard = Yards.ample(1);
            for (int w = 0; w < 40; w++) {
                Yards.test(yard, 1);
            }
            int lowest = step == 1 ? 0 : 39;
            for (int i = 1; i < 40; i++) {
                yard.need(lowest + i * step, lowest + (i - 1) * step);
            }
            for (int w = 0; w < 40; w++) {
                yard.put(w, w);
            }
            yard.go(40);
            due(40, yard, "fail", lowest);
            due(40, yard, "count", 3);
        }
    }

    /** 2 needs 1, which needs 0; 1 has begun only, so that it is not opened, and 2 stays. */
    static void p22_fail_notThroughOneThatIsNotDone() {
        RefitYard yard = Yards.ofPlain(3, 1);
        Yards.test(yard, 1);
        yard.tells(3, 0);
        yard.need(1, 0);
        yard.need(2, 1);
        yard.more(1, 8);
        for (int w = 0; w < 4; w++) {
            yard.put(w, 0);
        }
        yard.go(2);
        due(2, yard, "fail", 3);
        dueStates(yard, 0, 2, 3, 0);
        dueOpenedAgain(yard, 1, 0, 0, 1);
    }

    /** It tells of 0, which is open already, so that it is not opened, and 1 stays. */
    static void p22_fail_notThroughOneThatIsOpenAlready() {
        RefitYard yard = Yards.ofPlain(2, 1);
        Yards.test(yard, 1);
        yard.tells(2, 0);
        yard.need(1, 0);
        yard.put(1, 0);
        yard.put(2, 0);
        yard.go(1);
        due(1, yard, "fail", 2);
        dueStates(yard, 0, 3, 0);
    }

    /** 3 needs 1 and 2, which need 0: it is opened once. */
    static void p22_fail_oneThatIsReachedTwiceCountsOnce() {
        RefitYard yard = Yards.ofPlain(4, 1);
        Yards.test(yard, 1);
        yard.tells(4, 0);
        yard.tells(4, 1);
        yard.need(1, 0);
        yard.need(2, 0);
        yard.need(3, 1);
        yard.need(3, 2);
        for (int w = 0; w < 5; w++) {
            yard.put(w, w);
        }
        yard.go(5);
        due(5, yard, "fail", 4);
        dueOpenedAgain(yard, 1, 1, 1, 1, 1);
    }

    /** The other test needs what is opened, but it has not failed: what it tells of besides stays. */
    static void p22_fail_whatAnotherOpenedTestTellsOfStays() {
        RefitYard yard = Yards.ofPlain(2, 1);
        Yards.test(yard, 1);
        Yards.test(yard, 1);
        yard.tells(2, 0);
        yard.tells(3, 0);
        yard.tells(3, 1);
        for (int w = 0; w < 4; w++) {
            yard.put(w, w);
        }
        yard.go(4);
        due(3, yard, "fail", 2);
        dueStates(yard, 0, 3, 0, 0);
    }

    static void p22_fail_whatHangsOnNothingOfItStays() {
        RefitYard yard = Yards.ofPlain(1, 1);
        Yards.test(yard, 1);
        yard.put(0, 0);
        yard.put(1, 0);
        yard.go(1);
        due(1, yard, "fail", 1);
        dueStates(yard, 3, 0);
        due(1, yard, "load", 0, 8);
    }

    static void p23_more_noSuchWork() {
        for (int wrong : Yards.NO_NUMBERS) {
            refused(Yards::busy, "more", wrong, 1);
        }
        refused(Yards::busy, "more", Yards.BUSY_WORKS, 1);
        refused(Yards::bare, "more", 0, 1);
    }

    static void p23_more_isDone() {
        refused(Yards::busy, "more", Yards.DONE, 1);
        refused(Yards::busy, "more", Yards.DONE_TEST, 1);
    }

    static void p23_more_itsEndIsNow() {
        Supplier<RefitYard> start = () -> {
            RefitYard yard = Yards.ofPlain(1, 3);
            yard.put(0, 2);
            yard.go(5);
            return yard;
        };
        refused(start, "more", 0, 1);
    }

    static void p23_more_itsEndIsJustAboveNow() {
        RefitYard yard = Yards.ofPlain(1, 3);
        yard.put(0, 2);
        yard.go(4);
        due(4, yard, "more", 0, 1);
        yard.go(1);
        due(2, yard, "told", 0, 6);
        due(6, yard, "end");
    }

    static void p23_more_fewerThan1() {
        for (int wrong : new int[] {0, -1, -2, -40, LEAST}) {
            refused(Yards::busy, "more", Yards.LONE, wrong);
            refused(Yards::busy, "more", Yards.PUT, wrong);
        }
    }

    static void p23_more_moreThan40() {
        for (int wrong : new int[] {41, 64, MOST}) {
            refused(Yards::busy, "more", Yards.LONE, wrong);
            refused(Yards::busy, "more", Yards.PUT, wrong);
        }
    }

    /** Length and n together go beyond the greatest int. */
    static void p23_more_thatWrapsAround() {
        for (int wrong : new int[] {MOST, MOST - 1, MOST - 2, MOST - 3}) {
            refused(Yards::busy, "more", Yards.LONE, wrong);
        }
    }

    static void p23_more_upTo40() {
        RefitYard yard = Yards.ofPlain(1, 1);
        due(40, yard, "more", 0, 39);
        due(40, yard, "told", 0, 0);
    }

    /** n may be 40, but no length is short enough for it. */
    static void p23_more_beyond40() {
        refused(() -> Yards.ofPlain(2, 1), "more", 0, 40);
        refused(() -> Yards.ofPlain(2, 40), "more", 0, 1);
        refused(() -> Yards.ofPlain(2, 39), "more", 0, 2);
        due(40, Yards.ofPlain(2, 39), "more", 0, 1);
    }

    static void p23_more_anOpenOneStaysOpen() {
        RefitYard yard = Yards.busy();
        due(4, yard, "more", Yards.LONE, 1);
        due(0, yard, "told", Yards.LONE, 6);
        due(NONE, yard, "told", Yards.LONE, 7);
    }

    static void p23_more_onePutUpToTheLastShift() {
        RefitYard yard = Yards.ofPlain(1, 3);
        yard.put(0, 390);
        due(0, yard, "load", 399, 8);
        due(10, yard, "more", 0, 7);
        due(1, yard, "load", 399, 8);
        due(1, yard, "load", 393, 0);
        due(400, yard, "end");
    }

    static void p23_more_itsHandsCountOnceInEachShift() {
        RefitYard yard = Yards.ofPlain(1, 2);
        yard.put(0, 5);
        yard.more(0, 2);
        int[] hands = {0, 1, 1, 1, 1, 0};
        for (int i = 0; i < hands.length; i++) {
            due(hands[i], yard, "load", 4 + i, 0);
            due(hands[i], yard, "load", 4 + i, 8);
        }
        yard.take(0);
        for (int i = 0; i < hands.length; i++) {
            due(0, yard, "load", 4 + i, 0);
            due(0, yard, "load", 4 + i, 8);
        }
    }

    static void p23_more_onePutBeyondTheLastShift() {
        Supplier<RefitYard> start = () -> {
            RefitYard yard = Yards.ofPlain(2, 3);
            yard.put(0, 390);
            yard.put(1, 397);
            return yard;
        };
        refused(start, "more", 0, 8);
        refused(start, "more", 1, 1);
    }

    static void p23_more_oneThatHasBegunBeyondTheLastShift() {
        refused(() -> {
            RefitYard yard = Yards.ofPlain(1, 3);
            yard.put(0, 396);
            yard.go(398);
            return yard;
        }, "more", 0, 2);
    }

    static void p23_more_anOpenOneThatCouldNotBePutAnyMore() {
        RefitYard yard = Yards.ofPlain(1, 3);
        yard.go(400);
        due(40, yard, "more", 0, 37);
    }

    static void p23_more_oneThatHasBegun() {
        RefitYard yard = Yards.busy();
        due(8, yard, "more", Yards.BEGUN, 2);
        due(3, yard, "told", Yards.BEGUN, 7);
        due(1, yard, "load", 9, 0);
        due(2, yard, "load", 10, 0);
        due(1, yard, "load", 11, 0);
    }

    static void p23_more_whateverRulesSay() {
        RefitYard yard = Yards.ofPlain(2, 2);
        yard.need(1, 0);
        yard.put(0, 0);
        yard.put(1, 2);
        dueNoBreak(yard);
        due(3, yard, "more", 0, 1);
        dueBreak(yard, 1, 1, 2);
    }

    static void p23_more_movesTheWay() {
        RefitYard yard = Yards.ofPlain(2, 2);
        yard.need(1, 0);
        due(7, yard, "more", 0, 5);
        due(9, yard, "count", 6);
        due(7, yard, "told", 1, 8);
        due(4, yard, "more", 1, 2);
        due(4, yard, "told", 0, 9);
    }

    static void p23_more_oneThatWasOpenedAgain() {
        due(2, Yards.busy(), "more", Yards.AGAIN, 1);
    }
}
