/** The edges that the document's terms name: t1_, t2_ and t3_ by the terms' numbers. */
public final class EdgesOfTermsTest extends Edge {
    public static void main(String[] args) {
        runAll(EdgesOfTermsTest.class);
    }

    static void t1_shifts_theFirstIs0() {
        RefitYard yard = Yards.ofPlain(1, 1);
        due(YES, yard, "put", 0, 0);
        due(1, yard, "load", 0, 8);
        due(NONE, yard, "load", -1, 8);
    }

    static void t1_shifts_theLastIs399() {
        RefitYard yard = Yards.ofPlain(1, 1);
        due(YES, yard, "put", 0, 399);
        due(1, yard, "load", 399, 8);
        due(NONE, yard, "load", 400, 8);
        due(NO, yard, "put", 0, 400);
    }

    static void t1_now_is0AtFirst() {
        RefitYard yard = Yards.ofPlain(1, 1);
        due(0, yard, "count", 0);
        due(YES, yard, "may", 0, 0);
    }

    static void t1_now_is400BehindTheLastShift() {
        RefitYard yard = Yards.ofPlain(2, 1);
        yard.put(0, 399);
        yard.go(399);
        due(1, yard, "told", 0, 6);
        due(400, yard, "go", 1);
        due(3, yard, "told", 0, 6);
        due(NO, yard, "put", 1, 399);
        due(NO, yard, "put", 1, 400);
        due(NO, yard, "may", 1, 400);
    }

    static void t1_gangs_fourHandsOfEachTradeAtFirst() {
        for (int trade = 0; trade < 4; trade++) {
            RefitYard yard = new RefitYard();
            yard.space(9);
            yard.work(Yards.what(1, 4, trade, 0, 0), NONE);
            yard.work(Yards.what(1, 5, trade, 0, 0), NONE);
            due(YES, yard, "may", 0, 0);
            due(NO, yard, "may", 1, 0);
        }
    }

    static void t1_goods_oneOfEachAtFirst() {
        for (int good = 0; good < 4; good++) {
            RefitYard yard = new RefitYard();
            yard.space(9);
            yard.work(Yards.what(1, 1, 0, 0, 0), good);
            yard.work(Yards.what(1, 1, 0, 0, 0), good);
            due(YES, yard, "may", 0, 0);
            yard.put(0, 0);
            due(NO, yard, "may", 1, 0);
        }
    }

    static void t1_in_asManyShiftsAsItsLength() {
        RefitYard yard = Yards.ofPlain(1, 3);
        yard.put(0, 5);
        int[] works = {0, 1, 1, 1, 0};
        for (int i = 0; i < works.length; i++) {
            due(works[i], yard, "load", 4 + i, 8);
        }
    }

    static void t1_end_isTheShiftBehind() {
        RefitYard yard = Yards.ofPlain(1, 3);
        yard.put(0, 5);
        due(8, yard, "end");
    }

    static void t1_begun_onlyWhenItsShiftIsBelowNow() {
        RefitYard yard = Yards.ofPlain(1, 2);
        yard.put(0, 5);
        yard.go(5);
        due(1, yard, "told", 0, 6);
        yard.go(1);
        due(2, yard, "told", 0, 6);
    }

    static void t1_done_onlyWhenItsEndIsNotAboveNow() {
        RefitYard yard = Yards.ofPlain(1, 2);
        yard.put(0, 5);
        yard.go(6);
        due(2, yard, "told", 0, 6);
        yard.go(1);
        due(3, yard, "told", 0, 6);
    }

    static void t1_done_afterOneShiftWithLength1() {
        RefitYard yard = Yards.ofPlain(1, 1);
        yard.put(0, 0);
        due(1, yard, "told", 0, 6);
        yard.go(1);
        due(3, yard, "told", 0, 6);
    }

    /** Space 0 is near 1, and that is near 2; a hot work in 0, wet ones in each, a bar of these kinds. */
    private static RefitYard barred(int how) {
        RefitYard yard = Yards.ample(3);
        yard.near(0, 1);
        yard.near(2, 1);
        yard.bar(3, 1, how);
        yard.work(Yards.what(2, 1, 0, 1, 0), NONE);
        for (int space = 0; space < 3; space++) {
            yard.work(Yards.what(2, 1, 0, 3, space), NONE);
        }
        yard.put(0, 10);
        return yard;
    }

    static void t1_bar0_inOneSpaceOnly() {
        RefitYard yard = barred(0);
        due(NO, yard, "may", 1, 10);
        due(YES, yard, "may", 2, 10);
        due(YES, yard, "may", 3, 10);
    }

    static void t1_bar1_inOneSpaceOrTwoThatAreNear() {
        RefitYard yard = barred(1);
        due(NO, yard, "may", 1, 10);
        due(NO, yard, "may", 2, 10);
    }

    static void t1_bar1_notBehindANearSpace() {
        due(YES, barred(1), "may", 3, 10);
    }

    static void t1_bar2_anywhere() {
        RefitYard yard = barred(2);
        for (int w = 1; w <= 3; w++) {
            due(NO, yard, "may", w, 10);
        }
    }

    static void t1_bars_holdInSharedShiftsOnly() {
        RefitYard yard = barred(2);
        due(YES, yard, "may", 1, 8);
        due(NO, yard, "may", 1, 9);
        due(NO, yard, "may", 1, 11);
        due(YES, yard, "may", 1, 12);
    }

    static void t1_bars_ofOneKind() {
        RefitYard yard = Yards.ample(1);
        yard.bar(2, 2, 0);
        yard.work(Yards.what(1, 1, 0, 2, 0), NONE);
        yard.work(Yards.what(1, 1, 0, 2, 0), NONE);
        yard.put(0, 0);
        due(NO, yard, "may", 1, 0);
    }

    static void t1_bars_ofTwoKindsLeaveEachAlone() {
        RefitYard yard = Yards.ample(1);
        yard.bar(1, 2, 2);
        for (int kind : new int[] {1, 1, 2, 2}) {
            yard.work(Yards.what(1, 1, 0, kind, 0), NONE);
        }
        yard.put(0, 0);
        yard.put(2, 1);
        due(YES, yard, "may", 1, 0);
        due(YES, yard, "may", 3, 1);
    }

    /** Work 1 needs work 0, of length 2, that is put at 4: its end is 6. */
    private static RefitYard needing(int shift) {
        RefitYard yard = Yards.ofPlain(2, 2);
        yard.need(1, 0);
        yard.put(0, 4);
        yard.put(1, shift);
        return yard;
    }

    static void t2_rule1_anEndAtItsShiftBreaksNothing() {
        dueNoBreak(needing(6));
    }

    static void t2_rule1_anEndAboveItsShift() {
        dueBreak(needing(5), 1, 1, 5);
    }

    static void t2_rule1_oneThatIsOpen() {
        RefitYard yard = needing(6);
        yard.take(0);
        dueBreak(yard, 1, 1, 6);
    }

    static void t2_rule1_notByOneThatNeedsIt() {
        RefitYard yard = needing(20);
        yard.take(1);
        dueNoBreak(yard);
    }

    /** Works of a trade with these hands, all in shift 3. */
    private static RefitYard handsAtOnce(int there, int... hands) {
        RefitYard yard = Yards.ample(2);
        yard.gang(1, there);
        for (int i = 0; i < hands.length; i++) {
            yard.work(Yards.what(1, hands[i], 1, 0, i % 2), NONE);
            yard.put(i, 3);
        }
        return yard;
    }

    static void t2_rule2_asManyHandsAsThereAre() {
        dueNoBreak(handsAtOnce(5, 3, 2));
    }

    static void t2_rule2_oneHandMoreThanThereAre() {
        dueBreak(handsAtOnce(5, 3, 3), 0, 2, 3);
    }

    static void t2_rule2_noHandsAtAll() {
        dueBreak(handsAtOnce(0, 1), 0, 2, 3);
    }

    static void t2_rule2_handsOfOtherTradesDoNotCount() {
        RefitYard yard = handsAtOnce(5, 3, 2);
        yard.work(Yards.what(1, 9, 2, 0, 0), NONE);
        yard.put(2, 3);
        dueNoBreak(yard);
    }

    /** So many works that take good 2, all in shift 3. */
    private static RefitYard takersAtOnce(int there, int takers) {
        RefitYard yard = Yards.ample(2);
        yard.good(2, there);
        for (int i = 0; i < takers; i++) {
            yard.work(Yards.what(1, 1, 0, 0, i % 2), 2);
            yard.put(i, 3);
        }
        return yard;
    }

    static void t2_rule3_asManyAsThereAre() {
        dueNoBreak(takersAtOnce(3, 3));
    }

    static void t2_rule3_oneMoreThanThereAre() {
        dueBreak(takersAtOnce(3, 4), 0, 3, 3);
    }

    static void t2_rule3_noneAtAll() {
        dueBreak(takersAtOnce(0, 1), 0, 3, 3);
    }

    static void t2_rule3_worksWithoutAGoodOrWithAnotherDoNotCount() {
        RefitYard yard = takersAtOnce(1, 1);
        yard.work(Yards.what(1, 1, 0, 0, 0), NONE);
        yard.work(Yards.what(1, 1, 0, 0, 0), 3);
        yard.put(1, 3);
        yard.put(2, 3);
        dueNoBreak(yard);
    }

    /** So many works in one space, all in shift 3. */
    private static RefitYard worksAtOnce(int bears, int works) {
        RefitYard yard = Yards.ample(1);
        yard.space(bears);
        for (int i = 0; i < works; i++) {
            yard.work(Yards.what(1, 1, 0, 0, 1), NONE);
            yard.put(i, 3);
        }
        return yard;
    }

    static void t2_rule4_asManyAsItBears() {
        dueNoBreak(worksAtOnce(3, 3));
    }

    static void t2_rule4_oneMoreThanItBears() {
        dueBreak(worksAtOnce(3, 4), 0, 4, 3);
    }

    static void t2_rule4_worksInOtherSpacesDoNotCount() {
        RefitYard yard = worksAtOnce(1, 1);
        Yards.plain(yard, 1);
        yard.put(1, 3);
        dueNoBreak(yard);
    }

    static void t2_rule5_aloneNoWorkBreaksABar() {
        RefitYard yard = Yards.ample(1);
        yard.bar(2, 2, 2);
        yard.work(Yards.what(1, 1, 0, 2, 0), NONE);
        due(YES, yard, "may", 0, 0);
        yard.put(0, 0);
        dueNoBreak(yard);
        due(YES, yard, "may", 0, 0);
    }

    /** Four works in shifts 0 to 3, none of which may share a shift with any other. */
    private static RefitYard allBarred() {
        RefitYard yard = Yards.ofPlain(4, 1);
        yard.bar(0, 0, 0);
        for (int w = 0; w < 4; w++) {
            yard.put(w, w);
        }
        return yard;
    }

    static void t2_rule5_byAnyOfSeveralOthers() {
        for (int w = 0; w < 4; w++) {
            for (int other = 0; other < 4; other++) {
                due(w == other ? YES : NO, allBarred(), "may", w, other);
            }
        }
        for (int other = 1; other < 4; other++) {
            RefitYard yard = allBarred();
            yard.put(0, other);
            dueBreak(yard, 0, 5, other);
        }
    }

    static void t2_rule5_inTheFirstSharedShift() {
        RefitYard yard = barred(0);
        yard.put(1, 9);
        dueBreak(yard, 0, 5, 10);
        yard.put(1, 11);
        dueBreak(yard, 0, 5, 11);
        yard.put(1, 12);
        dueNoBreak(yard);
    }

    static void t2_break_theLeastWorkComesFirst() {
        RefitYard yard = handsAtOnce(0, 1, 1, 1);
        yard.put(0, 9);
        yard.put(1, 7);
        dueBreak(yard, 0, 2, 9);
        yard.take(0);
        dueBreak(yard, 1, 2, 7);
    }

    /** Two works break all rules at once; they are mended one after another. */
    static void t2_break_theLeastRuleOfAWork() {
        RefitYard yard = new RefitYard();
        yard.space(1);
        yard.bar(1, 1, 0);
        yard.work(Yards.what(2, 4, 0, 1, 0), 0);
        yard.work(Yards.what(2, 4, 0, 1, 0), 0);
        Yards.plain(yard, 1);
        yard.need(0, 2);
        yard.put(0, 3);
        yard.put(1, 4);
        dueBreak(yard, 0, 1, 3);
        yard.put(2, 0);
        dueBreak(yard, 0, 2, 4);
        yard.gang(0, 8);
        dueBreak(yard, 0, 3, 4);
        yard.good(0, 2);
        dueBreak(yard, 0, 4, 4);
    }

    static void t2_break_aLesserRuleInALaterShift() {
        RefitYard yard = Yards.ample(1);
        yard.bar(0, 3, 0);
        Yards.plain(yard, 5);
        yard.work(Yards.what(1, 1, 1, 3, 0), NONE);
        Yards.plain(yard, 1);
        yard.gang(0, 1);
        yard.put(0, 2);
        yard.put(1, 2);
        dueBreak(yard, 0, 5, 2);
        yard.put(2, 6);
        dueBreak(yard, 0, 2, 6);
    }

    static void t2_break_theLeastShiftOfARule() {
        RefitYard yard = Yards.ample(1);
        yard.work(Yards.what(9, 2, 0, 0, 0), NONE);
        Yards.plain(yard, 2);
        Yards.plain(yard, 2);
        yard.gang(0, 2);
        yard.put(0, 10);
        yard.put(1, 17);
        yard.put(2, 13);
        dueBreak(yard, 0, 2, 13);
        yard.put(2, 18);
        dueBreak(yard, 0, 2, 17);
    }

    static void t3_early_is0WithoutNeeds() {
        due(0, Yards.ofPlain(1, 7), "told", 0, 8);
    }

    static void t3_early_isTheGreatestOfItsNeeds() {
        RefitYard yard = Yards.ofPlain(1, 7);
        Yards.plain(yard, 3);
        Yards.plain(yard, 5);
        yard.need(2, 1);
        due(3, yard, "told", 2, 8);
        yard.need(2, 0);
        due(7, yard, "told", 2, 8);
    }

    static void t3_early_whicheverNumberIsNeeded() {
        for (int needed = 0; needed < 3; needed++) {
            RefitYard yard = Yards.ofPlain(3, 4);
            int first = (needed + 1) % 3;
            int second = (needed + 2) % 3;
            yard.need(first, needed);
            yard.need(second, needed);
            due(0, yard, "told", needed, 8);
            due(4, yard, "told", first, 8);
            due(4, yard, "told", second, 8);
        }
    }

    static void t3_tail_whicheverNumberNeedsIt() {
        for (int last = 0; last < 3; last++) {
            RefitYard yard = Yards.ofPlain(3, 4);
            int first = (last + 1) % 3;
            int second = (last + 2) % 3;
            yard.need(last, first);
            yard.need(last, second);
            due(0, yard, "told", last, 9);
            due(4, yard, "told", first, 9);
            due(4, yard, "told", second, 9);
        }
    }

    static void t3_tail_is0WithoutThoseThatNeedIt() {
        due(0, Yards.ofPlain(1, 7), "told", 0, 9);
    }

    static void t3_tail_isTheGreatestOfThoseThatNeedIt() {
        RefitYard yard = Yards.ofPlain(1, 7);
        Yards.plain(yard, 3);
        Yards.plain(yard, 5);
        yard.need(1, 2);
        due(3, yard, "told", 2, 9);
        yard.need(0, 2);
        due(7, yard, "told", 2, 9);
    }

    static void t3_way_is0WithoutWorks() {
        due(0, Yards.ample(1), "count", 6);
    }

    static void t3_way_ofTheLongestChain() {
        RefitYard yard = Yards.ofPlain(40, 40);
        for (int w = 1; w < 40; w++) {
            yard.need(w, w - 1);
        }
        due(1600, yard, "count", 6);
        due(1560, yard, "told", 39, 8);
        due(1560, yard, "told", 0, 9);
        due(0, yard, "told", 20, 10);
    }

    static void t3_slack_is0OnTheWay() {
        RefitYard yard = Yards.ofPlain(1, 7);
        due(0, yard, "told", 0, 10);
        Yards.plain(yard, 5);
        due(0, yard, "told", 0, 10);
        due(2, yard, "told", 1, 10);
    }

    static void t3_what_isPutDoesNotMoveTheWay() {
        RefitYard yard = needing(20);
        due(4, yard, "count", 6);
        due(2, yard, "told", 1, 8);
        due(0, yard, "told", 1, 10);
    }

    /** The document: an object is used for at most 512 calls after it has been made. */
    static void t1_object_isGoodFor512Calls() {
        RefitYard yard = Yards.bare();
        yard.space(1);
        Yards.plain(yard, 3);
        for (int call = 3; call < 511; call += 2) {
            yard.put(0, call % 397);
            yard.take(0);
        }
        due(YES, yard, "put", 0, 397);
        due(400, yard, "end");
    }
}
