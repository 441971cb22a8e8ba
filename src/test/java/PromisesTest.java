/** Each promise of the document by itself: ordinary inputs, the edges that it names, and wrong inputs. */
public final class PromisesTest {
    private static final Check CHECK = new Check("PromisesTest");
    private static final int NONE = RefitYard.NONE;
    private static final int LEAST = Integer.MIN_VALUE;
    private static final int MOST = Integer.MAX_VALUE;

    public static void main(String[] args) {
        aNewObject();
        space();
        near();
        gang();
        good();
        bar();
        work();
        need();
        tells();
        put();
        take();
        may();
        mayWithOthers();
        first();
        whyOneRuleAfterAnother();
        whyTheFirstBreak();
        whyBars();
        told();
        load();
        plan();
        planWithSlack();
        planWithoutPlaces();
        best();
        bestRefused();
        end();
        bound();
        go();
        fail();
        failReachesOnlyWhatItOpens();
        more();
        count();
        CHECK.finish();
    }

    private static void due(String call, long got, long want) {
        CHECK.due(call, got, want);
    }

    private static void yes(String call, boolean got) {
        CHECK.yes(call, got);
    }

    private static void no(String call, boolean got) {
        CHECK.no(call, got);
    }

    /** A yard with so many spaces, each of which bears nine. */
    private static RefitYard wide(int spaces) {
        RefitYard yard = new RefitYard();
        for (int i = 0; i < spaces; i++) {
            yard.space(9);
        }
        return yard;
    }

    /** A plain work of one hand in space 0. */
    private static int simple(RefitYard yard, int length) {
        return yard.work(length * 100000 + 10000, NONE);
    }

    private static int test(RefitYard yard, int length) {
        return yard.work(length * 100000 + 10400, NONE);
    }

    private static void aNewObject() {
        RefitYard yard = new RefitYard();
        for (int what = 0; what <= 6; what++) {
            due("1: count(" + what + ") of a new one", yard.count(what), 0);
        }
        due("1: end() of a new one", yard.end(), 0);
        due("1: bound() of a new one", yard.bound(), 0);
        due("1: plan() of a new one", yard.plan(), 0);
        due("1: best() of a new one", yard.best(), NONE);
        due("1: why(0) of a new one", yard.why(0), NONE);
        due("1: told(0, 0) of a new one", yard.told(0, 0), NONE);
        due("1: load(0, 8) of a new one", yard.load(0, 8), 0);
        due("1: work() without a space", yard.work(110000, NONE), NONE);
        for (int k = 0; k < 4; k++) {
            handsAndGoodsAtFirst(k);
        }
    }

    private static void handsAndGoodsAtFirst(int k) {
        RefitYard yard = wide(1);
        due("1: a work of four hands", yard.work(140000 + k * 1000, k), 0);
        due("1: a work of five hands", yard.work(150000 + k * 1000, NONE), 1);
        yes("1: there are four hands of " + k, yard.may(0, 0));
        no("1: there are no five hands of " + k, yard.may(1, 0));
        due("1: a work with the same good", yard.work(110000 + (k + 1) % 4 * 1000, k), 2);
        yard.put(0, 0);
        no("1: there is one only of good " + k, yard.may(2, 0));
    }

    private static void space() {
        RefitYard yard = new RefitYard();
        for (int wrong : new int[] {0, 10, -1, LEAST, MOST}) {
            due("2: space(" + wrong + ")", yard.space(wrong), NONE);
        }
        due("2: none came", yard.count(1), 0);
        for (int i = 0; i < 20; i++) {
            due("2: space " + i, yard.space(i % 9 + 1), i);
        }
        due("2: space 20", yard.space(1), NONE);
        due("2: twenty came", yard.count(1), 20);
    }

    private static void near() {
        RefitYard yard = wide(20);
        yes("3: near(0, 1)", yard.near(0, 1));
        no("3: near(0, 1) again", yard.near(0, 1));
        no("3: near(1, 0) is the same", yard.near(1, 0));
        no("3: near(0, 0)", yard.near(0, 0));
        no("3: near(0, 20)", yard.near(0, 20));
        no("3: near(20, 0)", yard.near(20, 0));
        no("3: near(-1, 0)", yard.near(-1, 0));
        no("3: near(0, -1)", yard.near(0, -1));
        no("3: near(MOST, LEAST)", yard.near(MOST, LEAST));
        no("3: near(1, 32), whose bit would be that of 0", yard.near(1, 32));
        yes("3: near(19, 18)", yard.near(19, 18));
        yard.bar(1, 2, 1);
        yard.work(110100, NONE);
        yard.work(110201, NONE);
        yard.work(110202, NONE);
        yard.put(0, 0);
        no("3: near spaces keep what is barred apart", yard.may(1, 0));
        yes("3: those that are not near don't", yard.may(2, 0));
        yes("3: near(2, 0)", yard.near(2, 0));
        no("3: now they do", yard.may(2, 0));
        no("3: the first ones still do", yard.may(1, 0));
        no("3: near(1, 0) still is there", yard.near(1, 0));
    }

    private static void gang() {
        RefitYard yard = wide(1);
        no("4: gang(-1, 1)", yard.gang(-1, 1));
        no("4: gang(4, 1)", yard.gang(4, 1));
        no("4: gang(0, -1)", yard.gang(0, -1));
        no("4: gang(0, 100)", yard.gang(0, 100));
        no("4: gang(MOST, LEAST)", yard.gang(MOST, LEAST));
        yard.work(193000, NONE);
        no("4: nine hands of four", yard.may(0, 0));
        yes("4: gang(3, 99)", yard.gang(3, 99));
        yes("4: nine hands of 99", yard.may(0, 0));
        yes("4: gang(3, 9)", yard.gang(3, 9));
        yes("4: nine hands of nine", yard.may(0, 0));
        yes("4: gang(3, 8)", yard.gang(3, 8));
        no("4: nine hands of eight", yard.may(0, 0));
        no("4: gang(3, 100) changes nothing", yard.gang(3, 100));
        no("4: still nine hands of eight", yard.may(0, 0));
        yes("4: gang(3, 0)", yard.gang(3, 0));
        due("4: no hands, no bound", yard.bound(), NONE);
        yes("4: the same number again", yard.gang(3, 0));
    }

    private static void good() {
        RefitYard yard = wide(1);
        no("5: good(-1, 1)", yard.good(-1, 1));
        no("5: good(4, 1)", yard.good(4, 1));
        no("5: good(0, -1)", yard.good(0, -1));
        no("5: good(0, 10)", yard.good(0, 10));
        no("5: good(LEAST, MOST)", yard.good(LEAST, MOST));
        yard.work(110000, 3);
        yard.work(110000, 3);
        yard.put(0, 0);
        no("5: two take one", yard.may(1, 0));
        yes("5: good(3, 2)", yard.good(3, 2));
        yes("5: two take two", yard.may(1, 0));
        no("5: good(3, 10) changes nothing", yard.good(3, 10));
        yes("5: still two take two", yard.may(1, 0));
        yes("5: good(3, 9)", yard.good(3, 9));
        yes("5: good(3, 0)", yard.good(3, 0));
        no("5: none is there", yard.may(0, 1));
        due("5: no good, no bound", yard.bound(), NONE);
    }

    private static void bar() {
        RefitYard yard = new RefitYard();
        yes("6: bar(1, 2, 0)", yard.bar(1, 2, 0));
        no("6: bar(1, 2, 0) again", yard.bar(1, 2, 0));
        no("6: bar(2, 1, 0) is the same", yard.bar(2, 1, 0));
        yes("6: bar(2, 1, 1) is another one", yard.bar(2, 1, 1));
        yes("6: bar(1, 2, 2) is a third one", yard.bar(1, 2, 2));
        yes("6: bar(4, 4, 0) of one kind", yard.bar(4, 4, 0));
        no("6: bar(4, 4, 0) again", yard.bar(4, 4, 0));
        due("6: four bars", yard.count(5), 4);
        no("6: bar(5, 0, 0)", yard.bar(5, 0, 0));
        no("6: bar(0, 5, 0)", yard.bar(0, 5, 0));
        no("6: bar(-1, 0, 0)", yard.bar(-1, 0, 0));
        no("6: bar(0, -1, 0)", yard.bar(0, -1, 0));
        no("6: bar(0, 0, 3)", yard.bar(0, 0, 3));
        no("6: bar(0, 0, -1)", yard.bar(0, 0, -1));
        no("6: bar(MOST, MOST, MOST)", yard.bar(MOST, MOST, MOST));
        no("6: bar(LEAST, LEAST, LEAST)", yard.bar(LEAST, LEAST, LEAST));
        due("6: still four bars", yard.count(5), 4);
        for (int how = 0; how < 3; how++) {
            for (int a = 0; a < 5; a++) {
                for (int b = a; b < 5; b++) {
                    yard.bar(b, a, how);
                }
            }
        }
        due("6: all bars", yard.count(5), 45);
    }

    private static void work() {
        RefitYard yard = wide(20);
        int[] wrong = {0, -1, LEAST, MOST, 10000, 4110000, 100000, 114000, 119000, 110500, 110900, 110020,
            110099, -110000, 99999, 4200000};
        for (int what : wrong) {
            due("7: work(" + what + ", NONE)", yard.work(what, NONE), NONE);
        }
        for (int good : new int[] {-2, 4, LEAST, MOST}) {
            due("7: work(110000, " + good + ")", yard.work(110000, good), NONE);
        }
        due("7: none came", yard.count(2), 0);
        due("7: the greatest of all", yard.work(4093419, 3), 0);
        int[] parts = {40, 3, 9, 19, 4, 3, 0, NONE};
        for (int what = 0; what < parts.length; what++) {
            due("7: told(0, " + what + ")", yard.told(0, what), parts[what]);
        }
        due("7: the least of all", yard.work(110000, NONE), 1);
        int[] least = {1, 0, 1, 0, 0, NONE, 0, NONE};
        for (int what = 0; what < least.length; what++) {
            due("7: told(1, " + what + ")", yard.told(1, what), least[what]);
        }
        for (int i = 2; i < 40; i++) {
            due("7: work " + i, yard.work(110000, 0), i);
        }
        due("7: work 40", yard.work(110000, 0), NONE);
        due("7: forty came", yard.count(2), 40);
    }

    private static void need() {
        RefitYard yard = wide(1);
        for (int i = 0; i < 4; i++) {
            simple(yard, 2);
        }
        yes("8: need(1, 0)", yard.need(1, 0));
        no("8: need(1, 0) again", yard.need(1, 0));
        yes("8: need(2, 1)", yard.need(2, 1));
        yes("8: need(3, 2)", yard.need(3, 2));
        no("8: need(0, 1) leads round", yard.need(0, 1));
        no("8: need(0, 3) leads round by three", yard.need(0, 3));
        yes("8: need(3, 0) doesn't", yard.need(3, 0));
        no("8: need(2, 2)", yard.need(2, 2));
        no("8: need(0, 4)", yard.need(0, 4));
        no("8: need(4, 0)", yard.need(4, 0));
        no("8: need(-1, 0)", yard.need(-1, 0));
        no("8: need(0, -1)", yard.need(0, -1));
        no("8: need(MOST, LEAST)", yard.need(MOST, LEAST));
        due("8: 3 needs two", yard.told(3, 11), 2);
        due("8: 2 needs one", yard.told(2, 11), 1);
        due("8: 0 needs none", yard.told(0, 11), 0);
        int late = simple(yard, 2);
        yard.put(late, 0);
        yes("8: one that is put may still need", yard.need(late, 0));
        yard.go(1);
        no("8: one that has begun may not", yard.need(late, 1));
        due("8: it needs one", yard.told(late, 11), 1);
        int last = simple(yard, 2);
        yes("8: one that has begun may be needed", yard.need(last, late));
        joinedChains();
    }

    private static void joinedChains() {
        RefitYard yard = wide(1);
        for (int i = 0; i < 40; i++) {
            simple(yard, 1);
        }
        for (int i = 1; i < 20; i++) {
            yard.need(i, i - 1);
            yard.need(39 - i, 40 - i);
        }
        yes("8: two chains are joined in their middles", yard.need(10, 30));
        no("8: round by both chains", yard.need(39, 19));
        no("8: round by both chains, from the middle", yard.need(35, 10));
        yes("8: beside the chains", yard.need(20, 19));
        no("8: round by all", yard.need(0, 20));
    }

    private static void tells() {
        RefitYard yard = wide(1);
        simple(yard, 1);
        simple(yard, 1);
        test(yard, 1);
        test(yard, 1);
        yes("9: tells(2, 0)", yard.tells(2, 0));
        no("9: tells(2, 0) again", yard.tells(2, 0));
        due("9: it needs it", yard.told(2, 11), 1);
        no("9: need(2, 0) is there already", yard.need(2, 0));
        yes("9: need(2, 1)", yard.need(2, 1));
        yes("9: tells(2, 1), though it needs it already", yard.tells(2, 1));
        due("9: it needs two", yard.told(2, 11), 2);
        no("9: tells(0, 1): no test", yard.tells(0, 1));
        no("9: tells(2, 2)", yard.tells(2, 2));
        no("9: tells(2, 4)", yard.tells(2, 4));
        no("9: tells(4, 0)", yard.tells(4, 0));
        no("9: tells(-1, 0)", yard.tells(-1, 0));
        no("9: tells(2, -1)", yard.tells(2, -1));
        no("9: tells(LEAST, MOST)", yard.tells(LEAST, MOST));
        yes("9: a test tells of a test", yard.tells(3, 2));
        no("9: round", yard.tells(2, 3));
        due("9: what is refused isn't needed", yard.told(2, 11), 2);
        int late = test(yard, 2);
        yard.put(late, 0);
        yard.need(late, 0);
        yard.go(1);
        no("9: a test that has begun", yard.tells(late, 1));
        no("9: a test that has begun, though it needs it", yard.tells(late, 0));
        due("9: it needs what it needed", yard.told(late, 11), 1);
    }

    private static void put() {
        RefitYard yard = wide(1);
        simple(yard, 3);
        simple(yard, 40);
        yes("10: put(0, 5)", yard.put(0, 5));
        due("10: it stands there", yard.told(0, 7), 5);
        yes("10: put(0, 7), from where it is", yard.put(0, 7));
        due("10: it stands there now", yard.told(0, 7), 7);
        due("10: it is gone from where it was", yard.load(5, 8), 0);
        due("10: it is counted once where both are", yard.load(7, 0), 1);
        yes("10: put(0, 7) again", yard.put(0, 7));
        due("10: it is still counted once", yard.load(7, 0), 1);
        yes("10: put(0, 397)", yard.put(0, 397));
        no("10: put(0, 398)", yard.put(0, 398));
        no("10: put(0, 400)", yard.put(0, 400));
        no("10: put(0, MOST)", yard.put(0, MOST));
        no("10: put(0, MOST - 1)", yard.put(0, MOST - 1));
        no("10: put(0, -1)", yard.put(0, -1));
        no("10: put(0, LEAST)", yard.put(0, LEAST));
        due("10: it stands where it stood", yard.told(0, 7), 397);
        no("10: put(2, 0)", yard.put(2, 0));
        no("10: put(-1, 0)", yard.put(-1, 0));
        yes("10: put(1, 360)", yard.put(1, 360));
        yard.gang(0, 0);
        yes("10: put() whatever the rules say", yard.put(0, 1));
        due("10: there is a break", yard.why(0), 0);
        yard.go(1);
        no("10: put(0, 0), below now", yard.put(0, 0));
        yes("10: put(0, 1), which is now", yard.put(0, 1));
        yard.go(1);
        no("10: one that has begun", yard.put(0, 5));
        due("10: it stands where it has begun", yard.told(0, 7), 1);
    }

    private static void take() {
        RefitYard yard = wide(1);
        simple(yard, 2);
        no("11: take(0), which is open", yard.take(0));
        no("11: take(1)", yard.take(1));
        no("11: take(-1)", yard.take(-1));
        no("11: take(MOST)", yard.take(MOST));
        yard.put(0, 3);
        yes("11: take(0)", yard.take(0));
        due("11: it is open", yard.told(0, 6), 0);
        due("11: it has no shift", yard.told(0, 7), NONE);
        due("11: nothing is in its shift", yard.load(3, 8), 0);
        due("11: nor are hands", yard.load(4, 0), 0);
        due("11: that is no opening again", yard.told(0, 12), 0);
        yard.put(0, 3);
        yard.go(3);
        yes("11: one whose shift is now", yard.take(0));
        yard.put(0, 3);
        yard.go(1);
        no("11: one that has begun", yard.take(0));
        yard.go(1);
        no("11: one that is done", yard.take(0));
        due("11: it is done still", yard.told(0, 6), 3);
    }

    private static void may() {
        RefitYard yard = wide(1);
        simple(yard, 40);
        yes("12: may(0, 0)", yard.may(0, 0));
        yes("12: may(0, 360)", yard.may(0, 360));
        no("12: may(0, 361)", yard.may(0, 361));
        no("12: may(0, -1)", yard.may(0, -1));
        no("12: may(0, MOST)", yard.may(0, MOST));
        no("12: may(0, LEAST)", yard.may(0, LEAST));
        no("12: may(1, 0)", yard.may(1, 0));
        no("12: may(-1, 0)", yard.may(-1, 0));
        due("12: asking puts nothing", yard.told(0, 7), NONE);
        yard.go(5);
        no("12: below now", yard.may(0, 4));
        yes("12: now", yard.may(0, 5));
        yard.gang(0, 0);
        no("12: nowhere", yard.may(0, 5));
        no("12: nowhere, asked with -1", yard.may(0, -1));
        yard.gang(0, 1);
        yard.put(0, 5);
        yes("12: where it is put doesn't count", yard.may(0, 6));
        yes("12: where it is put it may be put", yard.may(0, 5));
        yard.go(1);
        no("12: one that has begun", yard.may(0, 50));
    }

    private static void mayWithOthers() {
        RefitYard yard = wide(1);
        simple(yard, 2);
        simple(yard, 3);
        simple(yard, 2);
        yard.need(1, 0);
        yard.need(2, 1);
        no("12: what it needs is open", yard.may(1, 10));
        yes("12: what needs it is open", yard.may(0, 10));
        yard.put(0, 4);
        no("12: what it needs is not over", yard.may(1, 5));
        yes("12: what it needs is just over", yard.may(1, 6));
        yard.put(2, 10);
        yes("12: it is just over for what needs it", yard.may(1, 7));
        no("12: it isn't over for what needs it", yard.may(1, 8));
        no("12: nor far behind that", yard.may(1, 20));
        yard.put(0, 20);
        no("12: nothing is between", yard.may(1, 7));
        no("12: nothing is between, either way", yard.may(1, 22));
        yes("12: breaks of others by others don't count", yard.may(0, 30));
    }

    private static void first() {
        RefitYard yard = wide(1);
        yard.gang(0, 1);
        simple(yard, 5);
        simple(yard, 3);
        yard.put(0, 2);
        due("13: the gap is too short", yard.first(1, 0), 7);
        due("13: from within", yard.first(1, 4), 7);
        due("13: from behind", yard.first(1, 9), 9);
        due("13: from below all", yard.first(1, LEAST), 7);
        due("13: the last one", yard.first(1, 397), 397);
        due("13: behind the last one", yard.first(1, 398), NONE);
        due("13: behind all", yard.first(1, 400), NONE);
        due("13: far behind all", yard.first(1, MOST), NONE);
        due("13: no such work", yard.first(2, 0), NONE);
        due("13: no such work, either", yard.first(-1, 0), NONE);
        yard.put(0, 3);
        due("13: the gap is long enough", yard.first(1, 0), 0);
        due("13: the gap is too short from 1 on", yard.first(1, 1), 8);
        due("13: its own place doesn't count", yard.first(0, 0), 0);
        yard.go(4);
        due("13: not below now", yard.first(1, 0), 8);
        due("13: one that has begun", yard.first(0, 0), NONE);
        simple(yard, 40);
        yard.go(356);
        due("13: it fits from now on", yard.first(2, 0), 360);
        yard.go(1);
        due("13: it fits no more", yard.first(2, 0), NONE);
        yard.go(400);
        due("13: with no shift left", yard.first(1, 0), NONE);
    }

    private static void dueBreak(String call, RefitYard yard, int work, int rule, int shift) {
        due("14: the work, " + call, yard.why(0), work);
        due("14: the rule, " + call, yard.why(1), rule);
        due("14: the shift, " + call, yard.why(2), shift);
        for (int wrong : new int[] {-1, 3, LEAST, MOST}) {
            due("14: why(" + wrong + "), " + call, yard.why(wrong), NONE);
        }
    }

    private static void whyOneRuleAfterAnother() {
        RefitYard yard = new RefitYard();
        yard.space(1);
        yard.bar(1, 1, 0);
        yard.work(330100, 0);
        yard.work(330100, 0);
        yard.work(110000, NONE);
        dueBreak("with none put", yard, NONE, NONE, NONE);
        yard.put(0, 10);
        dueBreak("with one put", yard, NONE, NONE, NONE);
        yard.put(1, 12);
        yard.need(0, 2);
        dueBreak("what is needed is open", yard, 0, 1, 10);
        yard.put(2, 10);
        dueBreak("what is needed is not over", yard, 0, 1, 10);
        yard.put(2, 9);
        dueBreak("too many hands", yard, 0, 2, 12);
        yard.gang(0, 6);
        dueBreak("too few goods", yard, 0, 3, 12);
        yard.good(0, 2);
        dueBreak("too little room", yard, 0, 4, 12);
        RefitYard roomy = wide(1);
        roomy.bar(1, 1, 0);
        roomy.work(310100, NONE);
        roomy.work(310100, NONE);
        roomy.put(0, 10);
        roomy.put(1, 8);
        dueBreak("a bar", roomy, 0, 5, 10);
        roomy.put(1, 7);
        dueBreak("nothing", roomy, NONE, NONE, NONE);
    }

    private static void whyTheFirstBreak() {
        RefitYard yard = wide(2);
        yard.work(520000, NONE);
        yard.work(520000, 1);
        yard.work(520001, 1);
        yard.put(0, 20);
        yard.put(1, 0);
        yard.put(2, 4);
        dueBreak("0 has none", yard, 1, 3, 4);
        yard.gang(0, 3);
        dueBreak("the least rule of the least work", yard, 1, 2, 4);
        yard.put(0, 8);
        dueBreak("the least work, though others break sooner", yard, 0, 2, 8);
        yard.gang(0, 1);
        dueBreak("the first shift of all that are broken", yard, 0, 2, 8);
        yard.gang(0, 4);
        yard.good(1, 2);
        dueBreak("nothing", yard, NONE, NONE, NONE);
        yard.go(20);
        yard.good(1, 0);
        dueBreak("one that is done breaks rules, too", yard, 1, 3, 0);
    }

    /** Whether a bar of hot and wet is broken by two such works in two spaces. */
    private static boolean clashes(int how, boolean areNear, int otherSpace, int otherKind) {
        RefitYard yard = wide(2);
        if (areNear) {
            yard.near(0, 1);
        }
        yard.bar(1, 3, how);
        yard.work(110100, NONE);
        yard.work(110000 + otherKind * 100 + otherSpace, NONE);
        yard.put(0, 0);
        boolean may = yard.may(1, 0);
        yard.put(1, 0);
        boolean breaks = yard.why(1) == 5;
        CHECK.due("14: may() and why() agree on bars", may ? 1 : 0, breaks ? 0 : 1);
        return breaks;
    }

    private static void whyBars() {
        yes("14: how 0 in one space", clashes(0, true, 0, 3));
        no("14: how 0 in near spaces", clashes(0, true, 1, 3));
        yes("14: how 1 in one space", clashes(1, false, 0, 3));
        yes("14: how 1 in near spaces", clashes(1, true, 1, 3));
        no("14: how 1 in far spaces", clashes(1, false, 1, 3));
        yes("14: how 2 in one space", clashes(2, false, 0, 3));
        yes("14: how 2 in near spaces", clashes(2, true, 1, 3));
        yes("14: how 2 in far spaces", clashes(2, false, 1, 3));
        no("14: how 2 of another kind", clashes(2, true, 0, 2));
        no("14: how 2 of the same kind", clashes(2, true, 0, 1));
        RefitYard yard = wide(1);
        yard.work(110100, NONE);
        yard.work(110100, NONE);
        yard.put(0, 0);
        yard.put(1, 0);
        due("14: no bar yet", yard.why(1), NONE);
        yard.bar(1, 1, 2);
        due("14: a bar that came later", yard.why(1), 5);
        yard.take(1);
        due("14: no work stands against itself", yard.why(1), NONE);
    }

    private static void told() {
        RefitYard yard = wide(3);
        yard.work(331202, 2);
        int[] parts = {3, 1, 3, 2, 2, 2, 0, NONE, 0, 0, 0, 0, 0};
        for (int what = 0; what < parts.length; what++) {
            due("15: told(0, " + what + ")", yard.told(0, what), parts[what]);
        }
        for (int what : new int[] {-1, 13, LEAST, MOST}) {
            due("15: told(0, " + what + ")", yard.told(0, what), NONE);
        }
        due("15: told(1, 0)", yard.told(1, 0), NONE);
        due("15: told(-1, 0)", yard.told(-1, 0), NONE);
        due("15: told(LEAST, MOST)", yard.told(LEAST, MOST), NONE);
        yard.put(0, 2);
        due("15: put", yard.told(0, 6), 1);
        due("15: put at", yard.told(0, 7), 2);
        yard.go(2);
        due("15: its shift is now", yard.told(0, 6), 1);
        yard.go(1);
        due("15: begun", yard.told(0, 6), 2);
        yard.go(1);
        due("15: its last shift is now", yard.told(0, 6), 2);
        yard.go(1);
        due("15: done", yard.told(0, 6), 3);
        due("15: done at", yard.told(0, 7), 2);
        toldWays();
    }

    private static void dueWay(RefitYard yard, int work, int early, int tail, int slack) {
        due("15: EARLY of " + work, yard.told(work, 8), early);
        due("15: TAIL of " + work, yard.told(work, 9), tail);
        due("15: SLACK of " + work, yard.told(work, 10), slack);
    }

    private static void toldWays() {
        RefitYard yard = wide(1);
        for (int length : new int[] {5, 2, 4, 1, 3}) {
            simple(yard, length);
        }
        yard.need(3, 4);
        yard.need(0, 3);
        yard.need(0, 1);
        yard.need(2, 1);
        dueWay(yard, 0, 4, 0, 0);
        dueWay(yard, 1, 0, 5, 2);
        dueWay(yard, 2, 2, 0, 3);
        dueWay(yard, 3, 3, 5, 0);
        dueWay(yard, 4, 0, 6, 0);
        due("15: the WAY", yard.count(6), 9);
        yard.more(1, 5);
        dueWay(yard, 0, 7, 0, 0);
        dueWay(yard, 1, 0, 5, 0);
        dueWay(yard, 2, 7, 0, 1);
        dueWay(yard, 3, 3, 5, 3);
        dueWay(yard, 4, 0, 6, 3);
        yard.need(2, 0);
        dueWay(yard, 0, 7, 4, 0);
        dueWay(yard, 2, 12, 0, 0);
        simple(yard, 40);
        dueWay(yard, 5, 0, 0, 0);
        dueWay(yard, 0, 7, 4, 24);
    }

    private static void load() {
        RefitYard yard = wide(2);
        yard.work(220000, 0);
        yard.work(330001, 0);
        yard.work(111100, 3);
        yard.work(143400, NONE);
        for (int w = 0; w < 4; w++) {
            yard.put(w, 5);
        }
        int[] all = {5, 1, 0, 4, 2, 0, 0, 1, 4};
        int[] fewer = {5, 0, 0, 0, 2, 0, 0, 0, 2};
        int[] one = {3, 0, 0, 0, 1, 0, 0, 0, 1};
        for (int what = 0; what <= 8; what++) {
            due("16: load(4, " + what + ")", yard.load(4, what), 0);
            due("16: load(5, " + what + ")", yard.load(5, what), all[what]);
            due("16: load(6, " + what + ")", yard.load(6, what), fewer[what]);
            due("16: load(7, " + what + ")", yard.load(7, what), one[what]);
            due("16: load(8, " + what + ")", yard.load(8, what), 0);
            due("16: load(-1, " + what + ")", yard.load(-1, what), NONE);
            due("16: load(400, " + what + ")", yard.load(400, what), NONE);
            due("16: load(399, " + what + ")", yard.load(399, what), 0);
        }
        for (int what : new int[] {-1, 9, LEAST, MOST}) {
            due("16: load(5, " + what + ")", yard.load(5, what), NONE);
        }
        due("16: load(MOST, 8)", yard.load(MOST, 8), NONE);
        due("16: load(LEAST, 8)", yard.load(LEAST, 8), NONE);
        yard.go(400);
        due("16: what is done was there", yard.load(5, 8), 4);
    }

    /** One without a place is tried once, and those behind it are tried all the same. */
    private static void planWithoutPlaces() {
        RefitYard yard = wide(1);
        yard.gang(0, 2);
        yard.work(930000, NONE);
        yard.work(830000, NONE);
        yard.work(720000, NONE);
        due("17: two without a place, one with", yard.plan(), 1);
        due("17: that one", yard.told(2, 7), 0);
        due("17: two are open", yard.count(3), 2);
    }

    private static void plan() {
        RefitYard yard = wide(1);
        yard.gang(0, 1);
        simple(yard, 2);
        yard.work(190000, NONE);
        simple(yard, 3);
        simple(yard, 1);
        yard.need(2, 1);
        yard.need(3, 0);
        due("17: plan()", yard.plan(), 2);
        due("17: 0", yard.told(0, 7), 0);
        due("17: 1 has no place", yard.told(1, 6), 0);
        due("17: 2 needs 1", yard.told(2, 6), 0);
        due("17: 3", yard.told(3, 7), 2);
        due("17: there is no more", yard.plan(), 0);
        yard.gang(0, 9);
        yard.go(1);
        due("17: the others with more hands", yard.plan(), 2);
        due("17: 0 stays", yard.told(0, 7), 0);
        due("17: 1 is not below now, nor beside the others", yard.told(1, 7), 3);
        due("17: 2", yard.told(2, 7), 4);
        RefitYard late = wide(1);
        simple(late, 2);
        late.go(399);
        due("17: no room before the end", late.plan(), 0);
        late.go(1);
        due("17: no shift left", late.plan(), 0);
    }

    private static void planWithSlack() {
        RefitYard yard = wide(1);
        yard.gang(0, 1);
        for (int length : new int[] {2, 2, 3, 4}) {
            simple(yard, length);
        }
        yard.need(3, 2);
        due("17: plan() by slack", yard.plan(), 4);
        due("17: the least slack first", yard.told(2, 7), 0);
        due("17: what needs it next", yard.told(3, 7), 3);
        due("17: of like ones the least number", yard.told(0, 7), 7);
        due("17: then the next one", yard.told(1, 7), 9);
        RefitYard held = wide(1);
        simple(held, 2);
        simple(held, 3);
        held.need(1, 0);
        held.put(1, 10);
        due("17: before one that is put", held.plan(), 1);
        due("17: there it is", held.told(0, 7), 0);
        held.take(0);
        held.put(1, 1);
        due("17: no place before one that is put", held.plan(), 0);
    }

    private static void best() {
        RefitYard yard = wide(1);
        yard.gang(0, 2);
        yard.work(210000, NONE);
        yard.work(210000, NONE);
        yard.work(410000, NONE);
        due("18: best() is not as plain as it seems", yard.best(), 4);
        due("18: 0", yard.told(0, 7), 0);
        due("18: 1", yard.told(1, 7), 2);
        due("18: 2", yard.told(2, 7), 0);
        due("18: it stands", yard.end(), 4);
        for (int w = 0; w < 3; w++) {
            yard.take(w);
        }
        yard.need(0, 2);
        due("18: with a need", yard.best(), 6);
        due("18: 1 comes with the first ones", yard.told(1, 7), 0);
        due("18: 0 behind what it needs", yard.told(0, 7), 4);
        bestOfLikeOnes();
    }

    /** Six like works, one at a time: all orders end alike, and the first one stands. */
    private static void bestOfLikeOnes() {
        RefitYard yard = wide(1);
        yard.gang(0, 1);
        for (int w = 0; w < 6; w++) {
            simple(yard, 40);
        }
        due("18: best() of six", yard.best(), 240);
        for (int w = 0; w < 6; w++) {
            due("18: the first order, work " + w, yard.told(w, 7), w * 40);
        }
        RefitYard turned = wide(1);
        turned.gang(0, 1);
        for (int w = 0; w < 3; w++) {
            simple(turned, 2);
        }
        turned.need(0, 2);
        due("18: best() of three", turned.best(), 6);
        due("18: the first order is 1, 2, 0", turned.told(1, 7), 0);
        due("18: 2 is second", turned.told(2, 7), 2);
        due("18: 0 is third", turned.told(0, 7), 4);
    }

    private static void bestRefused() {
        RefitYard yard = wide(1);
        due("18: best() of none", yard.best(), NONE);
        simple(yard, 1);
        due("18: best() of one", yard.best(), 1);
        yard.take(0);
        yard.work(190000, NONE);
        due("18: no order puts all", yard.best(), NONE);
        due("18: nothing is put", yard.count(3), 2);
        yard.gang(0, 9);
        yard.put(0, 5);
        due("18: one is put", yard.best(), NONE);
        due("18: it stays", yard.told(0, 7), 5);
        yard.take(0);
        due("18: best() of two", yard.best(), 2);
        yard.take(0);
        yard.take(1);
        yard.go(0);
        due("18: now is still 0", yard.best(), 2);
        yard.take(0);
        yard.take(1);
        yard.go(1);
        due("18: now isn't 0", yard.best(), NONE);
        due("18: nothing is put then", yard.count(3), 2);
        RefitYard seven = wide(1);
        for (int w = 0; w < 7; w++) {
            simple(seven, 1);
        }
        due("18: best() of seven", seven.best(), NONE);
        due("18: seven are open", seven.count(3), 7);
    }

    private static void end() {
        RefitYard yard = wide(1);
        simple(yard, 9);
        simple(yard, 2);
        due("19: none is put", yard.end(), 0);
        yard.put(0, 3);
        yard.put(1, 5);
        due("19: the greatest one", yard.end(), 12);
        yard.put(1, 398);
        due("19: the last one", yard.end(), 400);
        yard.take(1);
        due("19: one is taken", yard.end(), 12);
        yard.go(20);
        due("19: one that is done", yard.end(), 12);
    }

    private static void bound() {
        RefitYard yard = new RefitYard();
        yard.space(1);
        yard.space(2);
        yard.gang(2, 0);
        yard.good(2, 0);
        due("20: what nobody asks for", yard.bound(), 0);
        yard.work(530001, NONE);
        due("20: the way", yard.bound(), 5);
        yard.work(230001, NONE);
        due("20: of the trade 21 by 4", yard.bound(), 6);
        yard.gang(0, 3);
        due("20: of the trade 21 by 3", yard.bound(), 7);
        yard.gang(0, 99);
        due("20: of the trade 21 by 99", yard.bound(), 5);
        yard.work(211000, 1);
        yard.work(411001, 1);
        due("20: of the good 6 by 1, of the space 11 by 2", yard.bound(), 6);
        yard.good(1, 2);
        due("20: of the space 11 by 2", yard.bound(), 6);
        yard.work(711000, NONE);
        due("20: of the space 9 by 1", yard.bound(), 9);
        yard.need(4, 0);
        due("20: the way is greater", yard.bound(), 12);
        yard.put(4, 0);
        due("20: where they are put does not count", yard.bound(), 12);
        yard.good(1, 0);
        due("20: no good", yard.bound(), NONE);
        yard.good(1, 9);
        yard.gang(1, 0);
        due("20: no hands", yard.bound(), NONE);
        yard.gang(1, 1);
        due("20: of the trade 13 by 1", yard.bound(), 13);
    }

    private static void go() {
        RefitYard yard = wide(1);
        for (int wrong : new int[] {-1, 401, LEAST, MOST}) {
            due("21: go(" + wrong + ")", yard.go(wrong), NONE);
        }
        due("21: now is 0", yard.count(0), 0);
        due("21: go(0)", yard.go(0), 0);
        due("21: go(7)", yard.go(7), 7);
        due("21: go(392)", yard.go(392), 399);
        due("21: go(400)", yard.go(400), 400);
        due("21: go(1)", yard.go(1), 400);
        due("21: now is 400", yard.count(0), 400);
        due("21: go(400) at once", new RefitYard().go(400), 400);
    }

    private static void fail() {
        RefitYard yard = wide(1);
        simple(yard, 1);
        test(yard, 1);
        simple(yard, 1);
        yard.tells(1, 0);
        due("22: a test that is open", yard.fail(1), NONE);
        yard.put(0, 0);
        yard.put(1, 1);
        yard.put(2, 2);
        due("22: a test that is put", yard.fail(1), NONE);
        yard.go(1);
        due("22: a test whose shift is now", yard.fail(1), NONE);
        yard.go(1);
        due("22: no test", yard.fail(0), NONE);
        due("22: no such test", yard.fail(3), NONE);
        due("22: no such test, either", yard.fail(-1), NONE);
        due("22: no such test by far", yard.fail(MOST), NONE);
        due("22: the test and what it tells of", yard.fail(1), 2);
        due("22: 0 is open", yard.told(0, 6), 0);
        due("22: 1 is open", yard.told(1, 6), 0);
        due("22: 2 is put", yard.told(2, 6), 1);
        due("22: 0 was opened once", yard.told(0, 12), 1);
        due("22: 2 was not", yard.told(2, 12), 0);
        due("22: nothing is in shift 0", yard.load(0, 8), 0);
        due("22: it is open", yard.fail(1), NONE);
        yard.plan();
        due("22: they are put anew", yard.told(1, 7), 3);
        yard.go(10);
        due("22: it fails again", yard.fail(1), 2);
        due("22: 0 was opened twice", yard.told(0, 12), 2);
        due("22: a begun test is not done", begunTest(), NONE);
    }

    private static int begunTest() {
        RefitYard yard = wide(1);
        test(yard, 3);
        yard.put(0, 0);
        yard.go(2);
        return yard.fail(0);
    }

    private static void failReachesOnlyWhatItOpens() {
        RefitYard yard = wide(1);
        for (int w = 0; w < 8; w++) {
            yard.work(w == 3 ? 110400 : 110000, NONE);
        }
        yard.tells(3, 0);
        yard.tells(3, 1);
        yard.need(3, 2);
        yard.need(4, 0);
        yard.need(5, 4);
        yard.need(6, 1);
        yard.need(7, 3);
        for (int w = 0; w < 8; w++) {
            yard.put(w, w == 5 ? 1 : 0);
        }
        yard.take(1);
        yard.more(7, 5);
        yard.go(2);
        due("22: 3, 0, 4 and 5", yard.fail(3), 4);
        int[] states = {0, 0, 3, 0, 0, 0, 3, 2};
        int[] opened = {1, 0, 0, 1, 1, 1, 0, 0};
        for (int w = 0; w < 8; w++) {
            due("22: the state of " + w, yard.told(w, 6), states[w]);
            due("22: how often " + w + " was opened", yard.told(w, 12), opened[w]);
        }
    }

    private static void more() {
        RefitYard yard = wide(1);
        simple(yard, 3);
        for (int wrong : new int[] {0, -1, 38, 41, LEAST, MOST}) {
            due("23: more(0, " + wrong + ")", yard.more(0, wrong), NONE);
        }
        due("23: more(1, 1)", yard.more(1, 1), NONE);
        due("23: more(-1, 1)", yard.more(-1, 1), NONE);
        due("23: more(0, 1)", yard.more(0, 1), 4);
        due("23: an open one stays so", yard.told(0, 7), NONE);
        due("23: the way grows", yard.count(6), 4);
        yard.put(0, 395);
        due("23: more(0, 2) goes behind the last shift", yard.more(0, 2), NONE);
        due("23: more(0, 1) doesn't", yard.more(0, 1), 5);
        due("23: it is in the last shift", yard.load(399, 8), 1);
        due("23: so are its hands", yard.load(399, 0), 1);
        yard.put(0, 2);
        due("23: more(0, 35)", yard.more(0, 35), 40);
        due("23: it is in shift 41", yard.load(41, 8), 1);
        due("23: it isn't in shift 42", yard.load(42, 8), 0);
        due("23: more(0, 1) of forty", yard.more(0, 1), NONE);
        simple(yard, 2);
        yard.put(1, 0);
        yard.go(1);
        due("23: one that has begun", yard.more(1, 1), 3);
        yard.go(1);
        due("23: its old end is no end", yard.told(1, 6), 2);
        yard.go(1);
        due("23: one that is done", yard.more(1, 1), NONE);
        due("23: its length stays", yard.told(1, 0), 3);
    }

    private static void count() {
        RefitYard yard = wide(2);
        simple(yard, 2);
        simple(yard, 3);
        simple(yard, 4);
        yard.bar(0, 1, 2);
        yard.need(1, 0);
        yard.put(0, 0);
        yard.put(1, 2);
        yard.go(4);
        int[] parts = {4, 2, 3, 1, 1, 1, 5};
        for (int what = 0; what < parts.length; what++) {
            due("24: count(" + what + ")", yard.count(what), parts[what]);
        }
        for (int what : new int[] {-1, 7, LEAST, MOST}) {
            due("24: count(" + what + ")", yard.count(what), NONE);
        }
        yard.go(1);
        due("24: one more is done", yard.count(4), 2);
    }
}
