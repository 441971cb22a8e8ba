/** The edges that promises 14 to 16, 19, 20 and 24 name: why, told, load, end, bound, count. */
public final class EdgesOfTellingTest extends Edge {
    private static final int[] FAR = {-2, 32, 64, 100, LEAST, MOST};

    public static void main(String[] args) {
        runAll(EdgesOfTellingTest.class);
    }

    /** The busy yard with a break: a work at its shift that needs one that is open. */
    private static RefitYard broken() {
        RefitYard yard = Yards.busy();
        yard.put(Yards.OPEN_TEST, 30);
        return yard;
    }

    static void p14_why_changesNothing() {
        changesNothing(Yards.OPEN_TEST, EdgesOfTellingTest::broken, "why", 0);
        changesNothing(1, EdgesOfTellingTest::broken, "why", 1);
        changesNothing(30, EdgesOfTellingTest::broken, "why", 2);
    }

    static void p14_why_others() {
        refused(EdgesOfTellingTest::broken, "why", -1);
        refused(EdgesOfTellingTest::broken, "why", 3);
        for (int wrong : FAR) {
            refused(EdgesOfTellingTest::broken, "why", wrong);
        }
    }

    static void p14_why_withoutABreak() {
        for (int what = -1; what <= 3; what++) {
            refused(Yards::busy, "why", what);
        }
    }

    static void p14_why_withoutWorks() {
        for (int what = -1; what <= 3; what++) {
            refused(Yards::bare, "why", what);
        }
    }

    static void p14_why_openWorksBreakNothing() {
        RefitYard yard = Yards.ofPlain(2, 1);
        yard.need(1, 0);
        yard.gang(0, 0);
        dueNoBreak(yard);
    }

    static void p14_why_work0InShift0() {
        RefitYard yard = Yards.ofPlain(1, 1);
        yard.gang(0, 0);
        yard.put(0, 0);
        dueBreak(yard, 0, 2, 0);
    }

    static void p14_why_work39InShift399() {
        RefitYard yard = Yards.fullOfWorks();
        yard.gang(0, 0);
        yard.put(39, 399);
        dueBreak(yard, 39, 2, 399);
    }

    static void p14_why_inItsLastShiftOnly() {
        RefitYard yard = Yards.ofPlain(2, 3);
        yard.gang(0, 1);
        yard.put(0, 10);
        yard.put(1, 12);
        dueBreak(yard, 0, 2, 12);
        yard.put(1, 13);
        dueNoBreak(yard);
    }

    static void p14_why_onesThatAreDoneBreakRulesToo() {
        RefitYard yard = Yards.ofPlain(1, 2);
        yard.put(0, 3);
        yard.go(400);
        dueNoBreak(yard);
        yard.gang(0, 0);
        dueBreak(yard, 0, 2, 3);
    }

    static void p15_told_changesNothing() {
        int[] parts = {3, 0, 1, 3, 0, 0, 1, 10, 2, 3, 0, 1, 0};
        for (int what = 0; what < parts.length; what++) {
            changesNothing(parts[what], Yards::busy, "told", Yards.PUT, what);
        }
    }

    static void p15_told_others() {
        refused(Yards::busy, "told", Yards.PUT, -1);
        refused(Yards::busy, "told", Yards.PUT, 13);
        for (int wrong : FAR) {
            refused(Yards::busy, "told", Yards.PUT, wrong);
        }
    }

    static void p15_told_noSuchWork() {
        for (int what = 0; what <= 12; what++) {
            due(NONE, Yards.bare(), "told", 0, what);
            due(NONE, Yards.busy(), "told", Yards.BUSY_WORKS, what);
            due(NONE, Yards.busy(), "told", -1, what);
            due(NONE, Yards.fullOfWorks(), "told", 40, what);
        }
        for (int wrong : Yards.NO_NUMBERS) {
            refused(Yards::busy, "told", wrong, 0);
        }
    }

    static void p15_told_theLastOf40() {
        RefitYard yard = Yards.fullOfWorks();
        due(1, yard, "told", 39, 0);
        due(0, yard, "told", 39, 6);
    }

    static void p15_told_withoutAGood() {
        due(NONE, Yards.busy(), "told", Yards.LONE, 5);
        due(0, Yards.busy(), "told", Yards.PUT, 5);
    }

    static void p15_told_stateOfEach() {
        RefitYard yard = Yards.busy();
        int[] states = {3, 3, 3, 2, 2, 1, 1, 1, 0, 0, 0, 0, 0};
        for (int w = 0; w < states.length; w++) {
            due(states[w], yard, "told", w, 6);
        }
    }

    static void p15_told_shiftOfOneThatIsOpen() {
        due(NONE, Yards.busy(), "told", Yards.LONE, 7);
        due(NONE, Yards.busy(), "told", Yards.AGAIN, 7);
    }

    static void p15_told_shift0IsNotOpen() {
        RefitYard yard = Yards.ofPlain(1, 1);
        yard.put(0, 0);
        due(0, yard, "told", 0, 7);
        due(1, yard, "told", 0, 6);
    }

    static void p15_told_shiftOfOnesThatHaveBegunOrAreDone() {
        due(3, Yards.busy(), "told", Yards.BEGUN, 7);
        due(0, Yards.busy(), "told", Yards.DONE, 7);
    }

    static void p15_told_needsNoneAtFirst() {
        due(0, Yards.busy(), "told", Yards.LONE, 11);
    }

    static void p15_told_needsAreThoseOfItsOwn() {
        RefitYard yard = Yards.busy();
        due(1, yard, "told", Yards.OPEN_TEST, 11);
        due(1, yard, "told", Yards.OPEN, 11);
    }

    static void p15_told_openedAgainCountsTheDoneOnes() {
        RefitYard yard = Yards.busy();
        due(1, yard, "told", Yards.AGAIN, 12);
        due(1, yard, "told", Yards.AGAIN_TEST, 12);
        due(0, yard, "told", Yards.DONE, 12);
        due(0, yard, "told", Yards.LONE, 12);
    }

    static void p15_told_openedAgainAndAgain() {
        RefitYard yard = Yards.ample(1);
        Yards.test(yard, 1);
        for (int times = 1; times <= 5; times++) {
            yard.put(0, yard.count(0));
            yard.go(1);
            due(1, yard, "fail", 0);
            due(times, yard, "told", 0, 12);
        }
    }

    static void p16_load_changesNothing() {
        int[] loads = {1, 0, 0, 0, 1, 0, 0, 0, 1};
        for (int what = 0; what < loads.length; what++) {
            changesNothing(loads[what], Yards::busy, "load", 10, what);
        }
    }

    static void p16_load_noSuchShift() {
        for (int shift : new int[] {-1, 400, 401, LEAST, MOST}) {
            refused(Yards::busy, "load", shift, 8);
            for (int what = 0; what < 8; what++) {
                due(NONE, Yards.busy(), "load", shift, what);
            }
        }
    }

    static void p16_load_others() {
        refused(Yards::busy, "load", 10, -1);
        refused(Yards::busy, "load", 10, 9);
        for (int wrong : FAR) {
            refused(Yards::busy, "load", 10, wrong);
        }
    }

    static void p16_load_emptyShifts() {
        for (int shift : new int[] {0, 1, 399}) {
            for (int what = 0; what <= 8; what++) {
                due(0, Yards.fullOfWorks(), "load", shift, what);
                due(0, Yards.bare(), "load", shift, what);
            }
        }
    }

    static void p16_load_theFirstAndTheLastShift() {
        for (int shift : new int[] {0, 399}) {
            for (int k = 0; k < 4; k++) {
                RefitYard yard = Yards.ample(1);
                yard.work(Yards.what(1, 7, k, 0, 0), 3 - k);
                yard.put(0, shift);
                for (int what = 0; what < 4; what++) {
                    due(what == k ? 7 : 0, yard, "load", shift, what);
                    due(what == 3 - k ? 1 : 0, yard, "load", shift, 4 + what);
                }
                due(1, yard, "load", shift, 8);
            }
        }
    }

    static void p16_load_beforeAndBehindAWork() {
        RefitYard yard = Yards.ample(1);
        yard.work(Yards.what(2, 7, 1, 0, 0), 2);
        yard.put(0, 10);
        int[] works = {0, 1, 1, 0};
        for (int i = 0; i < works.length; i++) {
            due(works[i] * 7, yard, "load", 9 + i, 1);
            due(works[i], yard, "load", 9 + i, 6);
            due(works[i], yard, "load", 9 + i, 8);
        }
    }

    static void p16_load_worksWithoutAGood() {
        RefitYard yard = Yards.ofPlain(1, 1);
        yard.put(0, 0);
        for (int what = 4; what < 8; what++) {
            due(0, yard, "load", 0, what);
        }
    }

    static void p16_load_moreThanThereIs() {
        RefitYard yard = Yards.ample(1);
        yard.gang(2, 0);
        yard.good(1, 0);
        for (int w = 0; w < 40; w++) {
            yard.work(Yards.what(1, 9, 2, 0, 0), 1);
            yard.put(w, 5);
        }
        due(360, yard, "load", 5, 2);
        due(40, yard, "load", 5, 5);
        due(40, yard, "load", 5, 8);
    }

    static void p16_load_shiftsBelowNow() {
        RefitYard yard = Yards.busy();
        due(3, yard, "load", 3, 8);
        yard.go(400);
        due(3, yard, "load", 3, 8);
    }

    static void p19_end_changesNothing() {
        changesNothing(21, Yards::busy, "end");
    }

    static void p19_end_withoutWorks() {
        changesNothing(0, Yards::bare, "end");
    }

    static void p19_end_allAreOpen() {
        changesNothing(0, Yards::fullOfWorks, "end");
    }

    static void p19_end_ofTheFirstAndTheLastShift() {
        RefitYard yard = Yards.ofPlain(1, 1);
        yard.put(0, 0);
        due(1, yard, "end");
        yard.put(0, 399);
        due(400, yard, "end");
    }

    static void p19_end_theGreatestEndNotTheLastBegun() {
        RefitYard yard = Yards.ofPlain(1, 20);
        Yards.plain(yard, 2);
        yard.put(0, 3);
        yard.put(1, 10);
        due(23, yard, "end");
    }

    static void p19_end_onesThatAreDoneCount() {
        RefitYard yard = Yards.ofPlain(1, 2);
        yard.put(0, 3);
        yard.go(400);
        due(5, yard, "end");
    }

    static void p19_end_isLessWhenTheLastIsTaken() {
        RefitYard yard = Yards.ofPlain(2, 2);
        yard.put(0, 3);
        yard.put(1, 9);
        yard.take(1);
        due(5, yard, "end");
        yard.take(0);
        due(0, yard, "end");
    }

    static void p20_bound_changesNothing() {
        changesNothing(8, Yards::busy, "bound");
    }

    static void p20_bound_withoutWorks() {
        changesNothing(0, Yards::bare, "bound");
    }

    static void p20_bound_whatNobodyAsksForDoesNotCount() {
        RefitYard yard = Yards.ofPlain(1, 3);
        for (int k = 1; k < 4; k++) {
            yard.gang(k, 0);
        }
        for (int k = 0; k < 4; k++) {
            yard.good(k, 0);
        }
        due(3, yard, "bound");
    }

    static void p20_bound_withoutWorksNothingIsAskedFor() {
        RefitYard yard = Yards.ample(1);
        for (int k = 0; k < 4; k++) {
            yard.gang(k, 0);
            yard.good(k, 0);
        }
        due(0, yard, "bound");
    }

    static void p20_bound_noHandsOfATrade() {
        for (int trade = 0; trade < 4; trade++) {
            int wanted = trade;
            refused(() -> {
                RefitYard yard = Yards.ample(1);
                yard.work(Yards.what(40, 1, (wanted + 1) % 4, 0, 0), NONE);
                yard.work(Yards.what(1, 1, wanted, 0, 0), NONE);
                yard.gang(wanted, 0);
                return yard;
            }, "bound");
        }
    }

    static void p20_bound_noneOfAGood() {
        for (int good = 0; good < 4; good++) {
            int wanted = good;
            refused(() -> {
                RefitYard yard = Yards.ample(1);
                yard.work(Yards.what(40, 1, 0, 0, 0), (wanted + 1) % 4);
                yard.work(Yards.what(1, 1, 0, 0, 0), wanted);
                yard.good(wanted, 0);
                return yard;
            }, "bound");
        }
    }

    static void p20_bound_comesBackWithTheFirstHand() {
        RefitYard yard = Yards.ofPlain(2, 3);
        yard.gang(0, 0);
        due(NONE, yard, "bound");
        yard.gang(0, 1);
        due(6, yard, "bound");
    }

    static void p20_bound_isTheWay() {
        RefitYard yard = Yards.ofPlain(3, 4);
        yard.need(1, 0);
        yard.need(2, 1);
        due(12, yard, "bound");
    }

    /** Three works of length 2: their hands by those that there are. */
    static void p20_bound_eachBegunShiftOfHandsIsAWholeOne() {
        for (int trade = 0; trade < 4; trade++) {
            RefitYard yard = Yards.ample(1);
            for (int w = 0; w < 3; w++) {
                yard.work(Yards.what(2, 4, trade, 0, 0), NONE);
            }
            int[] there = {1, 2, 5, 6, 7, 8, 23, 24};
            int[] bounds = {24, 12, 5, 4, 4, 3, 2, 2};
            for (int i = 0; i < there.length; i++) {
                yard.gang(trade, there[i]);
                due(bounds[i], yard, "bound");
            }
        }
    }

    static void p20_bound_eachBegunShiftOfAGoodIsAWholeOne() {
        for (int good = 0; good < 4; good++) {
            RefitYard yard = Yards.ample(1);
            for (int w = 0; w < 5; w++) {
                yard.work(Yards.what(2, 1, 0, 0, 0), good);
            }
            int[] bounds = {10, 5, 4, 3, 2, 2};
            for (int there = 1; there <= bounds.length; there++) {
                yard.good(good, there);
                due(bounds[there - 1], yard, "bound");
            }
        }
    }

    static void p20_bound_eachBegunShiftOfASpaceIsAWholeOne() {
        int[] bounds = {10, 5, 4, 3, 2, 2};
        for (int space : new int[] {0, 19}) {
            for (int bears = 1; bears <= bounds.length; bears++) {
                RefitYard yard = new RefitYard();
                for (int i = 0; i < 20; i++) {
                    yard.space(i == space ? bears : 9);
                }
                yard.gang(0, 99);
                for (int w = 0; w < 5; w++) {
                    yard.work(Yards.what(2, 1, 0, 0, space), NONE);
                }
                due(bounds[bears - 1], yard, "bound");
            }
        }
    }

    static void p20_bound_goesBeyondTheLastShift() {
        RefitYard yard = Yards.ample(1);
        yard.gang(0, 1);
        for (int w = 0; w < 40; w++) {
            yard.work(Yards.what(40, 9, 0, 0, 0), NONE);
        }
        due(14400, yard, "bound");
    }

    static void p20_bound_onesThatAreDoneCount() {
        RefitYard yard = Yards.ofPlain(2, 3);
        yard.gang(0, 1);
        yard.put(0, 0);
        yard.go(10);
        due(6, yard, "bound");
    }

    static void p24_count_changesNothing() {
        int[] counts = {Yards.BUSY_NOW, Yards.BUSY_SPACES, Yards.BUSY_WORKS, 5, 3, 3, 8};
        for (int what = 0; what < counts.length; what++) {
            changesNothing(counts[what], Yards::busy, "count", what);
        }
    }

    static void p24_count_others() {
        refused(Yards::busy, "count", -1);
        refused(Yards::busy, "count", 7);
        for (int wrong : FAR) {
            refused(Yards::busy, "count", wrong);
        }
    }

    static void p24_count_allAtTheirMost() {
        RefitYard yard = Yards.ofPlain(40, 40);
        for (int i = 1; i < 20; i++) {
            yard.space(1);
        }
        for (int n = 0; n < 75; n++) {
            yard.bar(n % 5, n / 5 % 5, n / 25);
        }
        for (int w = 0; w < 40; w++) {
            yard.need(w, w - 1);
            yard.put(w, 360);
        }
        yard.go(400);
        int[] counts = {400, 20, 40, 0, 40, 45, 1600};
        for (int what = 0; what < counts.length; what++) {
            due(counts[what], yard, "count", what);
        }
    }

    static void p24_count_openOnesAreNeitherPutNorBegun() {
        RefitYard yard = Yards.ofPlain(3, 2);
        due(3, yard, "count", 3);
        yard.put(0, 0);
        yard.put(1, 1);
        due(1, yard, "count", 3);
        yard.go(1);
        due(1, yard, "count", 3);
        due(0, yard, "count", 4);
    }

    static void p24_count_doneOnesAtTheirEnd() {
        RefitYard yard = Yards.ofPlain(1, 2);
        yard.put(0, 1);
        yard.go(2);
        due(0, yard, "count", 4);
        yard.go(1);
        due(1, yard, "count", 4);
        due(0, yard, "count", 3);
    }
}
