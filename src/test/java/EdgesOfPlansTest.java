import java.util.function.Supplier;

/** The edges that promises 17 and 18 name: plan, best. */
public final class EdgesOfPlansTest extends Edge {
    public static void main(String[] args) {
        runAll(EdgesOfPlansTest.class);
    }

    /** Plain works of these lengths, of which so many can be at once. */
    private static RefitYard inTurn(int hands, int... lengths) {
        RefitYard yard = Yards.ample(1);
        yard.gang(0, hands);
        for (int length : lengths) {
            Yards.plain(yard, length);
        }
        return yard;
    }

    private static void dueShifts(RefitYard yard, int... shifts) {
        for (int w = 0; w < shifts.length; w++) {
            due(shifts[w], yard, "told", w, 7);
        }
    }

    static void p17_plan_withoutWorks() {
        changesNothing(0, Yards::bare, "plan");
    }

    static void p17_plan_noneIsOpen() {
        changesNothing(0, () -> {
            RefitYard yard = inTurn(1, 2, 3);
            yard.put(0, 7);
            yard.put(1, 7);
            return yard;
        }, "plan");
    }

    static void p17_plan_againPutsNothing() {
        changesNothing(0, () -> {
            RefitYard yard = Yards.busy();
            yard.plan();
            return yard;
        }, "plan");
    }

    static void p17_plan_noPlaceAnywhere() {
        changesNothing(0, () -> inTurn(0, 2, 3, 1), "plan");
    }

    static void p17_plan_oneWithoutAPlaceStaysOpen() {
        RefitYard yard = inTurn(2, 3, 2);
        yard.work(Yards.what(9, 3, 0, 0, 0), NONE);
        due(2, yard, "plan");
        dueShifts(yard, 0, 0, NONE);
    }

    static void p17_plan_whatNeedsOneThatStaysOpenStaysOpen() {
        RefitYard yard = inTurn(2, 3, 2, 1);
        yard.work(Yards.what(9, 3, 0, 0, 0), NONE);
        yard.need(0, 3);
        yard.need(1, 0);
        due(1, yard, "plan");
        dueShifts(yard, NONE, NONE, 0, NONE);
    }

    static void p17_plan_whatIsNeededIsPutOnTheWay() {
        RefitYard yard = inTurn(9, 2, 2, 2);
        yard.need(0, 1);
        yard.need(1, 2);
        due(3, yard, "plan");
        dueShifts(yard, 4, 2, 0);
    }

    static void p17_plan_theLeastSlackIsFirst() {
        RefitYard yard = inTurn(1, 2, 3, 4);
        due(3, yard, "plan");
        dueShifts(yard, 7, 4, 0);
    }

    static void p17_plan_ofLikeSlackTheLeastNumber() {
        RefitYard yard = inTurn(1, 2, 2, 2);
        due(3, yard, "plan");
        dueShifts(yard, 0, 2, 4);
    }

    /** 0 and 1 have no slack, but what needs the other one has to wait for it. */
    static void p17_plan_onlyThoseWhoseNeedsArePutAreTried() {
        RefitYard yard = inTurn(1, 1, 5, 3);
        yard.need(1, 0);
        due(3, yard, "plan");
        dueShifts(yard, 0, 1, 6);
        RefitYard later = inTurn(1, 5, 1, 3);
        later.need(0, 1);
        later.put(1, 390);
        due(2, later, "plan");
        dueShifts(later, 391, 390, 0);
    }

    static void p17_plan_oneNeedOfTwoIsNotEnough() {
        RefitYard yard = inTurn(2, 1, 1);
        yard.work(Yards.what(1, 9, 0, 0, 0), NONE);
        yard.need(0, 1);
        yard.need(0, 2);
        due(1, yard, "plan");
        dueShifts(yard, NONE, 0, NONE);
    }

    static void p17_plan_fromNowOn() {
        RefitYard yard = inTurn(1, 2, 3);
        yard.go(7);
        due(2, yard, "plan");
        dueShifts(yard, 10, 7);
    }

    static void p17_plan_nowIsTheLastWhereItFits() {
        RefitYard yard = inTurn(1, 3);
        yard.go(397);
        due(1, yard, "plan");
        dueShifts(yard, 397);
    }

    static void p17_plan_nowIsBehindTheLastWhereItFits() {
        changesNothing(0, () -> {
            RefitYard yard = inTurn(1, 3);
            yard.go(398);
            return yard;
        }, "plan");
    }

    static void p17_plan_nowIs400() {
        changesNothing(0, () -> {
            RefitYard yard = inTurn(1, 1);
            yard.go(400);
            return yard;
        }, "plan");
    }

    static void p17_plan_leavesWhatIsPutOrHasBegun() {
        RefitYard yard = Yards.busy();
        due(5, yard, "plan");
        dueShifts(yard, 0, 2, 3, 3, 3, 5, 10, 20);
        due(0, yard, "count", 3);
    }

    static void p17_plan_justBeforeOneThatNeedsIt() {
        RefitYard yard = inTurn(9, 3, 2);
        yard.need(1, 0);
        yard.put(1, 3);
        due(1, yard, "plan");
        dueShifts(yard, 0, 3);
    }

    static void p17_plan_tooLateForOneThatNeedsIt() {
        changesNothing(0, () -> {
            RefitYard yard = inTurn(9, 3, 2);
            yard.need(1, 0);
            yard.put(1, 2);
            return yard;
        }, "plan");
    }

    static void p17_plan_allShiftsAreFull() {
        RefitYard yard = Yards.ofPlain(40, 10);
        yard.gang(0, 1);
        due(40, yard, "plan");
        due(400, yard, "end");
        due(390, yard, "told", 39, 7);
        dueNoBreak(yard);
    }

    static void p17_plan_oneShiftTooMany() {
        RefitYard yard = Yards.ofPlain(40, 10);
        yard.gang(0, 1);
        yard.more(39, 1);
        due(39, yard, "plan");
        due(0, yard, "told", 39, 7);
        due(NONE, yard, "told", 38, 7);
        due(391, yard, "end");
    }

    static void p17_plan_opensNoneAgain() {
        RefitYard yard = Yards.busy();
        yard.plan();
        due(1, yard, "told", Yards.AGAIN, 12);
        due(0, yard, "told", Yards.LONE, 12);
    }

    static void p18_best_withoutWorks() {
        refused(Yards::bare, "best");
        refused(Yards::fullOfSpaces, "best");
    }

    static void p18_best_ofOne() {
        RefitYard yard = inTurn(1, 7);
        due(7, yard, "best");
        dueShifts(yard, 0);
    }

    static void p18_best_ofSix() {
        RefitYard yard = inTurn(1, 40, 40, 40, 40, 40, 40);
        due(240, yard, "best");
        dueShifts(yard, 0, 40, 80, 120, 160, 200);
    }

    static void p18_best_ofSeven() {
        refused(() -> Yards.ofPlain(7, 1), "best");
    }

    static void p18_best_of40() {
        refused(Yards::fullOfWorks, "best");
    }

    static void p18_best_nowIsNot0() {
        for (int now : new int[] {1, 399, 400}) {
            refused(() -> {
                RefitYard yard = Yards.ofPlain(3, 1);
                yard.go(now);
                return yard;
            }, "best");
        }
    }

    static void p18_best_nowIsStill0() {
        RefitYard yard = Yards.ofPlain(3, 1);
        yard.go(0);
        due(1, yard, "best");
    }

    static void p18_best_oneIsPut() {
        for (int put = 0; put < 3; put++) {
            int which = put;
            refused(() -> {
                RefitYard yard = Yards.ofPlain(3, 1);
                yard.put(which, 0);
                return yard;
            }, "best");
        }
    }

    static void p18_best_allArePut() {
        refused(() -> {
            RefitYard yard = Yards.ofPlain(3, 1);
            yard.best();
            return yard;
        }, "best");
    }

    static void p18_best_onesThatWereTakenAgain() {
        RefitYard yard = Yards.ofPlain(1, 4);
        yard.put(0, 9);
        yard.take(0);
        due(4, yard, "best");
    }

    static void p18_best_noOrderForWantOfHands() {
        Supplier<RefitYard> start = () -> {
            RefitYard yard = inTurn(4, 1, 2);
            yard.work(Yards.what(1, 5, 0, 0, 0), NONE);
            return yard;
        };
        refused(start, "best");
        RefitYard yard = start.get();
        yard.gang(0, 5);
        due(3, yard, "best");
    }

    static void p18_best_noOrderForWantOfAGood() {
        Supplier<RefitYard> start = () -> {
            RefitYard yard = inTurn(4, 1, 2);
            yard.work(Yards.what(1, 1, 0, 0, 0), 2);
            yard.good(2, 0);
            return yard;
        };
        refused(start, "best");
        RefitYard yard = start.get();
        yard.good(2, 1);
        due(2, yard, "best");
    }

    /** By the first order, 0 and 1 are at once and 2 comes behind them: 6 shifts. */
    static void p18_best_theFirstOrderIsNotTheBest() {
        RefitYard yard = inTurn(2, 2, 2, 4);
        due(4, yard, "best");
        dueShifts(yard, 0, 2, 0);
    }

    /** With 0 as the first one, 2, which needs 1, would end at 9. */
    static void p18_best_theFirstWorkIsNotTheFirstOfTheOrder() {
        RefitYard yard = inTurn(1, 3, 1);
        yard.work(Yards.what(5, 1, 1, 0, 0), NONE);
        yard.need(2, 1);
        due(6, yard, "best");
        dueShifts(yard, 1, 0, 1);
    }

    /** Both orders end at 5: the first one stands, though by the other 1 would be sooner. */
    static void p18_best_ofLikeEndsTheFirstOrder() {
        RefitYard yard = inTurn(1, 3, 2);
        due(5, yard, "best");
        dueShifts(yard, 0, 3);
    }

    static void p18_best_ofLikeEndsTheFirstOrderThatCanBe() {
        RefitYard yard = inTurn(1, 2, 2, 2);
        yard.need(0, 2);
        due(6, yard, "best");
        dueShifts(yard, 4, 0, 2);
    }

    static void p18_best_eachBehindWhatItNeeds() {
        RefitYard yard = inTurn(9, 1, 1, 1, 1, 1, 1);
        for (int w = 0; w < 5; w++) {
            yard.need(w, w + 1);
        }
        due(6, yard, "best");
        dueShifts(yard, 5, 4, 3, 2, 1, 0);
    }

    static void p18_best_isNoSoonerThanTheBound() {
        RefitYard yard = inTurn(2, 3, 1, 2, 3, 2, 1);
        due(6, yard, "bound");
        due(6, yard, "best");
        dueNoBreak(yard);
    }
}
