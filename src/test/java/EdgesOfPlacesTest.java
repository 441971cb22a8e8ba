import java.util.function.Supplier;

/** The edges that promises 10 to 13 name: put, take, may, first. */
public final class EdgesOfPlacesTest extends Edge {
    public static void main(String[] args) {
        runAll(EdgesOfPlacesTest.class);
    }

    /** An ample yard of two works of these lengths, the second one at a shift. */
    private static RefitYard twoWorks(int length, int otherLength, int otherShift) {
        RefitYard yard = Yards.ofPlain(1, length);
        Yards.plain(yard, otherLength);
        yard.put(1, otherShift);
        return yard;
    }

    /** Works of these lengths that need one another in a row, put at these shifts (NONE: open). */
    private static RefitYard row(int[] lengths, int[] shifts) {
        RefitYard yard = Yards.ample(1);
        for (int w = 0; w < lengths.length; w++) {
            Yards.plain(yard, lengths[w]);
            yard.need(w, w - 1);
            yard.put(w, shifts[w]);
        }
        return yard;
    }

    private static RefitYard overAt400() {
        RefitYard yard = Yards.ofPlain(2, 1);
        yard.put(1, 399);
        yard.go(400);
        return yard;
    }

    static void p10_put_noSuchWork() {
        for (int wrong : Yards.NO_NUMBERS) {
            refused(Yards::busy, "put", wrong, 30);
        }
        refused(Yards::busy, "put", Yards.BUSY_WORKS, 30);
        refused(Yards::bare, "put", 0, 0);
        refused(Yards::fullOfWorks, "put", 40, 0);
    }

    static void p10_put_hasBegun() {
        refused(Yards::busy, "put", Yards.BEGUN, 30);
        refused(Yards::busy, "put", Yards.BEGUN, 3);
        refused(Yards::busy, "put", Yards.BEGUN_TEST, Yards.BUSY_NOW);
    }

    static void p10_put_isDone() {
        refused(Yards::busy, "put", Yards.DONE, 30);
        refused(Yards::busy, "put", Yards.DONE_TEST, 30);
    }

    static void p10_put_belowNow() {
        for (int shift : new int[] {Yards.BUSY_NOW - 1, 0, -1, LEAST}) {
            refused(Yards::busy, "put", Yards.LONE, shift);
            refused(Yards::busy, "put", Yards.PUT, shift);
        }
    }

    static void p10_put_belowTheFirstShift() {
        for (int shift : new int[] {-1, -2, LEAST}) {
            refused(() -> Yards.ofPlain(2, 3), "put", 1, shift);
        }
    }

    static void p10_put_now() {
        RefitYard yard = Yards.busy();
        due(YES, yard, "put", Yards.LONE, Yards.BUSY_NOW);
        due(Yards.BUSY_NOW, yard, "told", Yards.LONE, 7);
        due(1, yard, "told", Yards.LONE, 6);
    }

    static void p10_put_onePutNowMayStillMove() {
        RefitYard yard = Yards.busy();
        due(YES, yard, "put", Yards.PUT_NOW, 6);
        due(6, yard, "told", Yards.PUT_NOW, 7);
    }

    static void p10_put_theLastShiftWhereItFits() {
        for (int length : new int[] {1, 2, 39, 40}) {
            RefitYard yard = Yards.ofPlain(1, length);
            due(YES, yard, "put", 0, 400 - length);
            due(1, yard, "load", 399, 8);
            due(400, yard, "end");
        }
    }

    static void p10_put_doesNotFit() {
        for (int length : new int[] {1, 2, 39, 40}) {
            refused(() -> Yards.ofPlain(2, length), "put", 0, 401 - length);
            refused(() -> Yards.ofPlain(2, length), "put", 0, 400);
        }
        refused(Yards::busy, "put", Yards.PUT, 398);
    }

    /** Shift and length together go beyond the greatest int. */
    static void p10_put_shiftsThatWrapAround() {
        for (int shift : new int[] {MOST, MOST - 1, MOST - 39, MOST - 40}) {
            refused(() -> Yards.ofPlain(2, 40), "put", 0, shift);
        }
    }

    static void p10_put_nowIs400() {
        for (int shift : new int[] {0, 399, 400, 401}) {
            refused(EdgesOfPlacesTest::overAt400, "put", 0, shift);
        }
    }

    static void p10_put_fromWhereItIs() {
        RefitYard yard = Yards.ofPlain(1, 3);
        yard.put(0, 5);
        due(YES, yard, "put", 0, 7);
        int[] works = {0, 0, 1, 1, 1, 0};
        for (int i = 0; i < works.length; i++) {
            due(works[i], yard, "load", 5 + i, 8);
            due(works[i], yard, "load", 5 + i, 0);
        }
    }

    static void p10_put_whereItIs() {
        changesNothing(YES, Yards::busy, "put", Yards.PUT, 10);
    }

    static void p10_put_whateverRule1Says() {
        RefitYard yard = row(new int[] {2, 2}, new int[] {NONE, NONE});
        due(YES, yard, "put", 1, 0);
        dueBreak(yard, 1, 1, 0);
    }

    static void p10_put_whateverRule2Says() {
        RefitYard yard = Yards.ofPlain(1, 1);
        yard.gang(0, 0);
        due(YES, yard, "put", 0, 0);
        dueBreak(yard, 0, 2, 0);
    }

    static void p10_put_whateverRule3Says() {
        RefitYard yard = Yards.ample(1);
        yard.good(1, 0);
        yard.work(110000, 1);
        due(YES, yard, "put", 0, 0);
        dueBreak(yard, 0, 3, 0);
    }

    static void p10_put_whateverRule4Says() {
        RefitYard yard = Yards.ofPlain(10, 1);
        for (int w = 0; w < 10; w++) {
            due(YES, yard, "put", w, 0);
        }
        dueBreak(yard, 0, 4, 0);
    }

    static void p10_put_whateverRule5Says() {
        RefitYard yard = Yards.ofPlain(2, 1);
        yard.bar(0, 0, 0);
        due(YES, yard, "put", 1, 0);
        due(YES, yard, "put", 0, 0);
        dueBreak(yard, 0, 5, 0);
    }

    static void p11_take_noSuchWork() {
        for (int wrong : Yards.NO_NUMBERS) {
            refused(Yards::busy, "take", wrong);
        }
        refused(Yards::busy, "take", Yards.BUSY_WORKS);
        refused(Yards::bare, "take", 0);
    }

    static void p11_take_isOpen() {
        refused(Yards::busy, "take", Yards.LONE);
        refused(Yards::busy, "take", Yards.AGAIN);
    }

    static void p11_take_wasTakenAlready() {
        refused(() -> {
            RefitYard yard = Yards.busy();
            yard.take(Yards.PUT);
            return yard;
        }, "take", Yards.PUT);
    }

    static void p11_take_hasBegun() {
        refused(Yards::busy, "take", Yards.BEGUN);
        refused(Yards::busy, "take", Yards.BEGUN_TEST);
    }

    static void p11_take_isDone() {
        refused(Yards::busy, "take", Yards.DONE);
        refused(Yards::busy, "take", Yards.DONE_TEST);
    }

    static void p11_take_onePutNow() {
        RefitYard yard = Yards.busy();
        due(YES, yard, "take", Yards.PUT_NOW);
        due(0, yard, "told", Yards.PUT_NOW, 6);
        due(NONE, yard, "told", Yards.PUT_NOW, 7);
        due(0, yard, "load", Yards.BUSY_NOW, 1);
        due(0, yard, "load", Yards.BUSY_NOW + 1, 4);
    }

    static void p11_take_isNoOpeningOfADoneOne() {
        RefitYard yard = Yards.busy();
        yard.take(Yards.PUT);
        due(0, yard, "told", Yards.PUT, 12);
    }

    static void p11_take_fromTheFirstAndTheLastShift() {
        for (int shift : new int[] {0, 399}) {
            RefitYard yard = Yards.ofPlain(1, 1);
            yard.put(0, shift);
            due(YES, yard, "take", 0);
            due(0, yard, "load", shift, 8);
            due(0, yard, "load", shift, 0);
        }
    }

    static void p12_may_changesNothing() {
        changesNothing(YES, Yards::busy, "may", Yards.LONE, 30);
        changesNothing(YES, Yards::busy, "may", Yards.PUT, 11);
        changesNothing(NO, Yards::busy, "may", Yards.PUT, 18);
    }

    static void p12_may_noSuchWork() {
        for (int wrong : Yards.NO_NUMBERS) {
            refused(Yards::busy, "may", wrong, 30);
            refused(Yards::busy, "may", wrong, NONE);
        }
        refused(Yards::busy, "may", Yards.BUSY_WORKS, 30);
        refused(Yards::bare, "may", 0, 0);
    }

    static void p12_may_hasBegun() {
        refused(Yards::busy, "may", Yards.BEGUN, 30);
        refused(Yards::busy, "may", Yards.BEGUN, 3);
        refused(Yards::busy, "may", Yards.BEGUN_TEST, Yards.BUSY_NOW);
        refused(Yards::busy, "may", Yards.BEGUN, NONE);
    }

    static void p12_may_isDone() {
        refused(Yards::busy, "may", Yards.DONE, 30);
        refused(Yards::busy, "may", Yards.DONE, 0);
    }

    static void p12_may_onePutNow() {
        due(YES, Yards.busy(), "may", Yards.PUT_NOW, Yards.BUSY_NOW);
        due(YES, Yards.busy(), "may", Yards.PUT_NOW, Yards.BUSY_NOW + 1);
    }

    static void p12_may_belowNow() {
        for (int shift : new int[] {Yards.BUSY_NOW - 1, 0, -1, LEAST}) {
            refused(Yards::busy, "may", Yards.LONE, shift);
        }
        due(YES, Yards.busy(), "may", Yards.LONE, Yards.BUSY_NOW);
    }

    /** Nowhere is told as NONE by first(): that is no shift where a work may be. */
    static void p12_may_noneIsNoShift() {
        RefitYard yard = Yards.ofPlain(1, 1);
        due(NO, yard, "may", 0, NONE);
        yard.gang(0, 0);
        due(NO, yard, "may", 0, NONE);
        due(NO, yard, "may", 0, 0);
    }

    static void p12_may_theLastShiftWhereItFits() {
        for (int length : new int[] {1, 2, 39, 40}) {
            RefitYard yard = Yards.ofPlain(1, length);
            due(YES, yard, "may", 0, 400 - length);
            due(NO, yard, "may", 0, 401 - length);
            due(NO, yard, "may", 0, 400);
        }
    }

    static void p12_may_shiftsThatWrapAround() {
        RefitYard yard = Yards.ofPlain(1, 40);
        for (int shift : new int[] {MOST, MOST - 1, MOST - 39, MOST - 40, LEAST, LEAST + 1}) {
            due(NO, yard, "may", 0, shift);
        }
    }

    static void p12_may_nowIs400() {
        RefitYard yard = overAt400();
        for (int shift : new int[] {0, 399, 400}) {
            due(NO, yard, "may", 0, shift);
        }
    }

    static void p12_may_whatItNeedsIsOpen() {
        RefitYard yard = row(new int[] {2, 2}, new int[] {NONE, NONE});
        due(NO, yard, "may", 1, 0);
        due(NO, yard, "may", 1, 398);
    }

    static void p12_may_whatItNeedsEndsThere() {
        RefitYard yard = row(new int[] {3, 2}, new int[] {4, NONE});
        due(NO, yard, "may", 1, 6);
        due(YES, yard, "may", 1, 7);
    }

    static void p12_may_whatNeedsItIsOpen() {
        RefitYard yard = row(new int[] {3, 2}, new int[] {NONE, NONE});
        due(YES, yard, "may", 0, 0);
        due(YES, yard, "may", 0, 397);
    }

    static void p12_may_whatNeedsItBeginsThere() {
        RefitYard yard = row(new int[] {3, 2}, new int[] {NONE, 10});
        due(YES, yard, "may", 0, 7);
        due(NO, yard, "may", 0, 8);
        due(NO, yard, "may", 0, 20);
    }

    static void p12_may_whicheverNumberNeedsIt() {
        for (int needer = 0; needer < 3; needer++) {
            RefitYard yard = Yards.ofPlain(3, 2);
            int needed = (needer + 1) % 3;
            yard.need(needer, needed);
            yard.put(needer, 10);
            due(YES, yard, "may", needed, 8);
            due(NO, yard, "may", needed, 9);
            due(YES, yard, "may", (needer + 2) % 3, 9);
        }
    }

    static void p12_may_whicheverNumberItNeeds() {
        for (int needed = 0; needed < 3; needed++) {
            RefitYard yard = Yards.ofPlain(3, 2);
            int needer = (needed + 1) % 3;
            yard.need(needer, needed);
            yard.put(needed, 10);
            due(NO, yard, "may", needer, 11);
            due(YES, yard, "may", needer, 12);
            due(YES, yard, "may", (needed + 2) % 3, 11);
        }
    }

    /** It needs another one that is open, and breaks rule 1 by that, wherever this one is. */
    static void p12_may_whatNeedsItBreaksRule1ByAnother() {
        RefitYard yard = Yards.ofPlain(3, 2);
        yard.need(2, 0);
        yard.need(2, 1);
        yard.put(2, 10);
        due(YES, yard, "may", 0, 8);
        due(NO, yard, "may", 0, 9);
    }

    static void p12_may_otherBreaksElsewhereDoNotCount() {
        RefitYard yard = row(new int[] {3, 2, 1}, new int[] {20, 5, NONE});
        Yards.plain(yard, 1);
        dueBreak(yard, 1, 1, 5);
        due(YES, yard, "may", 3, 5);
    }

    static void p12_may_itsOwnPlaceDoesNotCount() {
        RefitYard yard = new RefitYard();
        yard.space(1);
        yard.bar(2, 2, 2);
        yard.work(Yards.what(4, 4, 0, 2, 0), 0);
        yard.put(0, 10);
        for (int shift = 6; shift <= 14; shift++) {
            due(YES, yard, "may", 0, shift);
        }
        due(10, yard, "told", 0, 7);
    }

    /** A work of length 3 beside one of length 2 at 10 and 11 with which it can't share a shift. */
    private static void dueApart(RefitYard yard) {
        due(YES, yard, "may", 0, 7);
        due(NO, yard, "may", 0, 8);
        due(NO, yard, "may", 0, 11);
        due(YES, yard, "may", 0, 12);
    }

    static void p12_may_rule2InItsFirstAndLastShift() {
        RefitYard yard = twoWorks(3, 2, 10);
        yard.gang(0, 1);
        dueApart(yard);
        yard.gang(0, 2);
        due(YES, yard, "may", 0, 8);
    }

    static void p12_may_rule3InItsFirstAndLastShift() {
        RefitYard yard = Yards.ample(1);
        yard.work(Yards.what(3, 1, 0, 0, 0), 3);
        yard.work(Yards.what(2, 1, 0, 0, 0), 3);
        yard.put(1, 10);
        yard.good(3, 1);
        dueApart(yard);
        yard.good(3, 2);
        due(YES, yard, "may", 0, 8);
    }

    static void p12_may_rule4InItsFirstAndLastShift() {
        for (int bears = 1; bears <= 2; bears++) {
            RefitYard yard = new RefitYard();
            yard.space(bears);
            Yards.plain(yard, 3);
            Yards.plain(yard, 2);
            yard.put(1, 10);
            if (bears == 1) {
                dueApart(yard);
            } else {
                due(YES, yard, "may", 0, 8);
            }
        }
    }

    static void p12_may_rule5InItsFirstAndLastShift() {
        RefitYard yard = twoWorks(3, 2, 10);
        due(YES, yard, "may", 0, 8);
        yard.bar(0, 0, 0);
        dueApart(yard);
    }

    static void p13_first_changesNothing() {
        changesNothing(Yards.BUSY_NOW, Yards::busy, "first", Yards.LONE, 0);
        changesNothing(7, Yards::busy, "first", Yards.PUT, 0);
        changesNothing(NONE, Yards::busy, "first", Yards.LONE, 398);
    }

    static void p13_first_noSuchWork() {
        for (int wrong : Yards.NO_NUMBERS) {
            refused(Yards::busy, "first", wrong, 0);
        }
        refused(Yards::busy, "first", Yards.BUSY_WORKS, 0);
        refused(Yards::bare, "first", 0, 0);
    }

    static void p13_first_hasBegun() {
        refused(Yards::busy, "first", Yards.BEGUN, 0);
        refused(Yards::busy, "first", Yards.BEGUN_TEST, 30);
    }

    static void p13_first_isDone() {
        refused(Yards::busy, "first", Yards.DONE, 0);
        refused(Yards::busy, "first", Yards.DONE_TEST, 30);
    }

    static void p13_first_onePutNow() {
        due(Yards.BUSY_NOW, Yards.busy(), "first", Yards.PUT_NOW, 0);
    }

    static void p13_first_fromTheShiftItself() {
        RefitYard yard = Yards.ofPlain(1, 3);
        for (int from : new int[] {0, 1, 200, 397}) {
            due(from, yard, "first", 0, from);
        }
    }

    static void p13_first_fromBelowTheFirstShift() {
        RefitYard yard = Yards.ofPlain(1, 3);
        for (int from : new int[] {-1, -400, LEAST}) {
            due(0, yard, "first", 0, from);
        }
    }

    static void p13_first_fromBelowNow() {
        RefitYard yard = Yards.busy();
        for (int from : new int[] {Yards.BUSY_NOW - 1, 0, -1, LEAST}) {
            due(Yards.BUSY_NOW, yard, "first", Yards.LONE, from);
        }
        due(Yards.BUSY_NOW + 1, yard, "first", Yards.LONE, Yards.BUSY_NOW + 1);
    }

    static void p13_first_fromBehindTheLastWhereItFits() {
        for (int length : new int[] {1, 2, 39, 40}) {
            Supplier<RefitYard> start = () -> Yards.ofPlain(2, length);
            due(400 - length, start.get(), "first", 0, 400 - length);
            refused(start, "first", 0, 401 - length);
            refused(start, "first", 0, 400);
        }
    }

    static void p13_first_fromThatWrapsAround() {
        for (int from : new int[] {401, MOST, MOST - 1, MOST - 39, MOST - 40}) {
            refused(() -> Yards.ofPlain(2, 40), "first", 0, from);
        }
    }

    static void p13_first_nowIs400() {
        refused(EdgesOfPlacesTest::overAt400, "first", 0, 0);
        refused(EdgesOfPlacesTest::overAt400, "first", 0, 400);
    }

    static void p13_first_nowIsTheLastWhereItFits() {
        RefitYard yard = Yards.ofPlain(1, 3);
        yard.go(397);
        due(397, yard, "first", 0, 0);
        yard.go(1);
        due(NONE, yard, "first", 0, 0);
    }

    /** One hand there is; shifts 0 to 1 and 2 + gap on are taken. */
    private static RefitYard gap(int gap, int length) {
        RefitYard yard = Yards.ofPlain(1, length);
        yard.gang(0, 1);
        Yards.plain(yard, 2);
        Yards.plain(yard, 30);
        yard.put(1, 0);
        yard.put(2, 2 + gap);
        return yard;
    }

    static void p13_first_aGapThatIsJustLongEnough() {
        due(2, gap(3, 3), "first", 0, 0);
        due(2, gap(3, 3), "first", 0, 2);
    }

    static void p13_first_aGapThatIsOneTooShort() {
        due(34, gap(2, 3), "first", 0, 0);
    }

    static void p13_first_aGapOfWhichTooLittleIsLeft() {
        due(35, gap(3, 3), "first", 0, 3);
    }

    static void p13_first_nowhere() {
        refused(() -> {
            RefitYard yard = Yards.ofPlain(1, 1);
            yard.gang(0, 0);
            return yard;
        }, "first", 0, 0);
    }

    static void p13_first_whatItNeedsIsOpen() {
        refused(() -> row(new int[] {2, 2}, new int[] {NONE, NONE}), "first", 1, 0);
    }

    static void p13_first_justBetweenWhatItNeedsAndWhatNeedsIt() {
        RefitYard yard = row(new int[] {2, 3, 1}, new int[] {4, NONE, 9});
        due(6, yard, "first", 1, 0);
        due(6, yard, "first", 1, 6);
        due(NONE, yard, "first", 1, 7);
    }

    static void p13_first_oneTooLittleBetweenWhatItNeedsAndWhatNeedsIt() {
        refused(() -> row(new int[] {2, 3, 1}, new int[] {4, NONE, 8}), "first", 1, 0);
    }

    static void p13_first_whatItNeedsEndsWithTheLastShift() {
        refused(() -> row(new int[] {2, 1}, new int[] {398, NONE}), "first", 1, 0);
        due(399, row(new int[] {2, 1}, new int[] {397, NONE}), "first", 1, 0);
    }

    static void p13_first_itsOwnPlaceDoesNotCount() {
        RefitYard yard = Yards.ofPlain(1, 3);
        yard.gang(0, 1);
        yard.put(0, 1);
        due(0, yard, "first", 0, 0);
        due(2, yard, "first", 0, 2);
    }
}
