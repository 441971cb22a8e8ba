/**
 * A refit yard: works that hang on one another are laid into shifts, with gangs and goods that are
 * never enough, spaces that bear so many, and kinds of works that may not be near one another; what
 * stands against a plan is told, where a work can be put, how long it can wait, an end that nobody
 * can beat, and the soonest end of all; the shifts go by, tests fail and open again what they tell of.
 *
 * <p>Sets of works are the bits of a long, by the works' numbers: there are at most 40 of them.
 */
public final class RefitYard {
    public static final int NONE = -1;

    private static final int SHIFTS = 400;
    private static final int TRADES = 4;
    private static final int GOODS = 4;
    private static final int KINDS = 5;
    private static final int TEST = 4;

    private static final int MOST_SPACES = 20;
    private static final int MOST_BORNE = 9;
    private static final int MOST_HANDS = 99;
    private static final int MOST_OF_A_GOOD = 9;
    private static final int MOST_WORKS = 40;
    private static final int MOST_LENGTH = 40;
    private static final int MOST_ORDERED = 6;

    private static final int IN_ONE_SPACE = 0;
    private static final int IN_NEAR_SPACES = 1;
    private static final int ANYWHERE = 2;
    private static final int HOWS = 3;

    private static final int NEEDS_RULE = 1;
    private static final int HANDS_RULE = 2;
    private static final int GOOD_RULE = 3;
    private static final int SPACE_RULE = 4;
    private static final int BAR_RULE = 5;

    private final Ground ground = new Ground();
    private final Net net = new Net();
    private final Board board = new Board();
    private final Rules rules = new Rules(ground, net, board);
    private final Orders orders = new Orders(net, board, rules);

    public RefitYard() {
    }

    public int space(int bears) {
        if (bears < 1 || bears > MOST_BORNE || ground.spaces >= MOST_SPACES) {
            return NONE;
        }
        return ground.addSpace(bears);
    }

    public boolean near(int a, int b) {
        if (!ground.hasSpace(a) || !ground.hasSpace(b) || a == b || ground.areNear(a, b)) {
            return false;
        }
        ground.join(a, b);
        rules.markFoes();
        return true;
    }

    public boolean gang(int trade, int hands) {
        if (!isTrade(trade) || hands < 0 || hands > MOST_HANDS) {
            return false;
        }
        rules.gangs[trade] = hands;
        return true;
    }

    public boolean good(int good, int many) {
        if (!isGood(good) || many < 0 || many > MOST_OF_A_GOOD) {
            return false;
        }
        rules.goods[good] = many;
        return true;
    }

    public boolean bar(int a, int b, int how) {
        if (!isKind(a) || !isKind(b) || how < 0 || how >= HOWS || ground.isBarred(a, b, how)) {
            return false;
        }
        ground.forbid(a, b, how);
        rules.markFoes();
        return true;
    }

    public int work(int what, int good) {
        if (what < 0 || net.size >= MOST_WORKS || (good != NONE && !isGood(good))) {
            return NONE;
        }
        Work made = new Work(net.size, what, good);
        if (!canBe(made)) {
            return NONE;
        }
        net.addWork(made);
        rules.markFoes();
        return made.number;
    }

    public boolean need(int work, int needed) {
        Work w = net.find(work);
        Work other = net.find(needed);
        if (w == null || other == null || !mayLean(w, other) || w.leansOn(other)) {
            return false;
        }
        net.link(w, other);
        return true;
    }

    public boolean tells(int test, int work) {
        Work w = net.find(test);
        Work other = net.find(work);
        if (w == null || other == null || w.kind != TEST || !mayLean(w, other)) {
            return false;
        }
        if ((w.toldOf & other.bit) != 0) {
            return false;
        }
        w.toldOf |= other.bit;
        net.link(w, other);
        return true;
    }

    public boolean put(int work, int shift) {
        Work w = net.find(work);
        if (w == null || w.hasBegun(board.now) || shift < board.now || shift > SHIFTS - w.length) {
            return false;
        }
        board.lift(w);
        board.lay(w, shift);
        return true;
    }

    public boolean take(int work) {
        Work w = net.find(work);
        if (w == null || w.isOpen() || w.hasBegun(board.now)) {
            return false;
        }
        board.lift(w);
        return true;
    }

    public boolean may(int work, int shift) {
        return shift >= 0 && first(work, shift) == shift;
    }

    public int first(int work, int from) {
        Work w = net.find(work);
        if (w == null || w.hasBegun(board.now)) {
            return NONE;
        }
        return rules.firstPlace(w, from);
    }

    public int why(int what) {
        for (int i = 0; i < net.size; i++) {
            Work w = net.works[i];
            int rule = rules.leastBroken(w);
            if (rule != NONE) {
                return partOfBreak(w, rule, what);
            }
        }
        return NONE;
    }

    public int told(int work, int what) {
        Work w = net.find(work);
        if (w == null) {
            return NONE;
        }
        switch (what) {
            case 0: return w.length;
            case 1: return w.trade;
            case 2: return w.hands;
            case 3: return w.space;
            case 4: return w.kind;
            case 5: return w.good;
            case 6: return stateOf(w);
            case 7: return w.shift;
            case 8: return w.early;
            case 9: return w.tail;
            case 10: return net.slackOf(w);
            case 11: return Long.bitCount(w.needs);
            case 12: return w.reopened;
            default: return NONE;
        }
    }

    public int load(int shift, int what) {
        if (shift < 0 || shift >= SHIFTS || what < 0 || what > TRADES + GOODS) {
            return NONE;
        }
        if (what < TRADES) {
            return board.hands[what][shift];
        }
        if (what < TRADES + GOODS) {
            return Long.bitCount(board.within[shift] & net.takers[what - TRADES]);
        }
        return Long.bitCount(board.within[shift]);
    }

    public int plan() {
        long tried = 0;
        int laid = 0;
        for (int round = 0; round < net.size; round++) {
            Work w = net.mostPressing(tried);
            if (w == null) {
                return laid;
            }
            tried |= w.bit;
            int place = rules.firstPlace(w, board.now);
            if (place != NONE) {
                board.lay(w, place);
                laid++;
            }
        }
        return laid;
    }

    public int best() {
        if (net.size < 1 || net.size > MOST_ORDERED || board.now != 0 || net.allThatArePut() != 0) {
            return NONE;
        }
        return orders.layBest();
    }

    public int end() {
        int greatest = 0;
        for (int i = 0; i < net.size; i++) {
            Work w = net.works[i];
            if (!w.isOpen()) {
                greatest = Math.max(greatest, w.behind());
            }
        }
        return greatest;
    }

    public int bound() {
        int most = net.way;
        for (int trade = 0; trade < TRADES; trade++) {
            most = greater(most, shiftsFor(net.askedOfTrade(trade), rules.gangs[trade]));
        }
        for (int good = 0; good < GOODS; good++) {
            most = greater(most, shiftsFor(net.askedOfGood(good), rules.goods[good]));
        }
        for (int space = 0; space < ground.spaces; space++) {
            most = greater(most, shiftsFor(net.askedOfSpace(space), ground.bears[space]));
        }
        return most;
    }

    public int go(int n) {
        if (n < 0 || n > SHIFTS) {
            return NONE;
        }
        board.now = Math.min(SHIFTS, board.now + n);
        return board.now;
    }

    public int fail(int test) {
        Work w = net.find(test);
        if (w == null || w.kind != TEST || !w.isDone(board.now)) {
            return NONE;
        }
        long opened = net.openedWith(w, board.now);
        for (int i = 0; i < net.size; i++) {
            Work other = net.works[i];
            if ((opened & other.bit) != 0) {
                board.lift(other);
                other.reopened++;
            }
        }
        return Long.bitCount(opened);
    }

    public int more(int work, int n) {
        Work w = net.find(work);
        if (w == null || w.isDone(board.now) || n < 1 || n > MOST_LENGTH - w.length) {
            return NONE;
        }
        if (!w.isOpen() && w.behind() + n > SHIFTS) {
            return NONE;
        }
        board.lengthen(w, n);
        net.weigh();
        return w.length;
    }

    public int count(int what) {
        switch (what) {
            case 0: return board.now;
            case 1: return ground.spaces;
            case 2: return net.size;
            case 3: return net.size - Long.bitCount(net.allThatArePut());
            case 4: return Long.bitCount(net.allDone(board.now));
            case 5: return ground.bars;
            case 6: return net.way;
            default: return NONE;
        }
    }

    private static boolean isTrade(int trade) {
        return trade >= 0 && trade < TRADES;
    }

    private static boolean isGood(int good) {
        return good >= 0 && good < GOODS;
    }

    private static boolean isKind(int kind) {
        return kind >= 0 && kind < KINDS;
    }

    private boolean canBe(Work w) {
        return w.length >= 1 && w.length <= MOST_LENGTH && w.hands >= 1
            && isTrade(w.trade) && isKind(w.kind) && ground.hasSpace(w.space);
    }

    private boolean mayLean(Work w, Work other) {
        return w != other && !other.hangsOn(w) && !w.hasBegun(board.now);
    }

    private int partOfBreak(Work w, int rule, int what) {
        switch (what) {
            case 0: return w.number;
            case 1: return rule;
            case 2: return rules.leastShift(w, rule);
            default: return NONE;
        }
    }

    private int stateOf(Work w) {
        if (w.isOpen()) {
            return 0;
        }
        if (w.isDone(board.now)) {
            return 3;
        }
        return w.hasBegun(board.now) ? 2 : 1;
    }

    private static int shiftsFor(int asked, int there) {
        if (asked == 0) {
            return 0;
        }
        return there < 1 ? NONE : (asked + there - 1) / there;
    }

    /** NONE wins over every number: once something that is asked for is lacking, no bound is left. */
    private static int greater(int a, int b) {
        return a == NONE || b == NONE ? NONE : Math.max(a, b);
    }

    /** One work: what it is, where it stands, and what it hangs on. */
    private static final class Work {
        final int number;
        final long bit;
        final int trade;
        final int hands;
        final int space;
        final int kind;
        final int good;
        int length;
        int shift = NONE;
        int reopened;
        int early;
        int tail;
        long needs;
        /** All that it hangs on, by however many steps. */
        long under;
        long toldOf;
        /** Those with which a bar forbids it to share a shift. */
        long foes;

        Work(int number, int what, int good) {
            this.number = number;
            this.bit = 1L << number;
            this.good = good;
            this.space = what % 100;
            this.kind = what / 100 % 10;
            this.trade = what / 1000 % 10;
            this.hands = what / 10000 % 10;
            this.length = what / 100000;
        }

        boolean isOpen() {
            return shift == NONE;
        }

        int behind() {
            return shift + length;
        }

        boolean hasBegun(int now) {
            return !isOpen() && shift < now;
        }

        boolean isDone(int now) {
            return !isOpen() && behind() <= now;
        }

        boolean leansOn(Work other) {
            return (needs & other.bit) != 0;
        }

        boolean hangsOn(Work other) {
            return (under & other.bit) != 0;
        }

        boolean isReady(long put) {
            return isOpen() && (needs & ~put) == 0;
        }

        int wholeWay() {
            return early + length + tail;
        }
    }

    /** The spaces, which of them are near one another, and the bars between kinds. */
    private static final class Ground {
        final int[] bears = new int[MOST_SPACES];
        /** Of each space, a bit for every space that is near. */
        final int[] neighbours = new int[MOST_SPACES];
        /** Of each how and kind, a bit for every kind that is barred. */
        final int[] barred = new int[HOWS * KINDS];
        int spaces;
        int bars;

        int addSpace(int borne) {
            bears[spaces] = borne;
            spaces++;
            return spaces - 1;
        }

        boolean hasSpace(int space) {
            return space >= 0 && space < spaces;
        }

        boolean areNear(int a, int b) {
            return (neighbours[a] & 1 << b) != 0;
        }

        void join(int a, int b) {
            neighbours[a] |= 1 << b;
            neighbours[b] |= 1 << a;
        }

        boolean isBarred(int a, int b, int how) {
            return (barred[how * KINDS + a] & 1 << b) != 0;
        }

        void forbid(int a, int b, int how) {
            barred[how * KINDS + a] |= 1 << b;
            barred[how * KINDS + b] |= 1 << a;
            bars++;
        }

        boolean keepsApart(Work a, Work b) {
            if (isBarred(a.kind, b.kind, ANYWHERE)) {
                return true;
            }
            if (a.space == b.space) {
                return isBarred(a.kind, b.kind, IN_ONE_SPACE) || isBarred(a.kind, b.kind, IN_NEAR_SPACES);
            }
            return areNear(a.space, b.space) && isBarred(a.kind, b.kind, IN_NEAR_SPACES);
        }
    }

    /** The works, how they hang on one another, and how long that makes the whole. */
    private static final class Net {
        final Work[] works = new Work[MOST_WORKS];
        /** The works' numbers, each behind those that it needs. */
        final int[] ranked = new int[MOST_WORKS];
        final long[] takers = new long[GOODS];
        final long[] dwellers = new long[MOST_SPACES];
        int size;
        int way;

        Work find(int number) {
            return number >= 0 && number < size ? works[number] : null;
        }

        void addWork(Work w) {
            works[size] = w;
            size++;
            dwellers[w.space] |= w.bit;
            if (w.good != NONE) {
                takers[w.good] |= w.bit;
            }
            weigh();
        }

        void link(Work w, Work needed) {
            w.needs |= needed.bit;
            long gained = needed.under | needed.bit;
            for (int i = 0; i < size; i++) {
                Work other = works[i];
                if (other == w || other.hangsOn(w)) {
                    other.under |= gained;
                }
            }
            weigh();
        }

        void weigh() {
            rank();
            for (int i = 0; i < size; i++) {
                works[i].early = 0;
                works[i].tail = 0;
            }
            for (int r = 0; r < size; r++) {
                pushEarly(works[ranked[r]]);
            }
            for (int r = size - 1; r >= 0; r--) {
                pushTail(works[ranked[r]]);
            }
            way = 0;
            for (int i = 0; i < size; i++) {
                way = Math.max(way, works[i].wholeWay());
            }
        }

        /**
         * A work hangs on more works than any that it needs does, so a row by that number
         * has every work behind those that it needs.
         */
        private void rank() {
            int r = 0;
            for (int below = 0; below < size; below++) {
                for (int i = 0; i < size; i++) {
                    if (Long.bitCount(works[i].under) == below) {
                        ranked[r] = i;
                        r++;
                    }
                }
            }
        }

        private void pushEarly(Work w) {
            for (int i = 0; i < size; i++) {
                Work later = works[i];
                if (later.leansOn(w)) {
                    later.early = Math.max(later.early, w.early + w.length);
                }
            }
        }

        private void pushTail(Work w) {
            for (int i = 0; i < size; i++) {
                Work sooner = works[i];
                if (w.leansOn(sooner)) {
                    sooner.tail = Math.max(sooner.tail, w.length + w.tail);
                }
            }
        }

        int slackOf(Work w) {
            return way - w.wholeWay();
        }

        long allThatArePut() {
            long those = 0;
            for (int i = 0; i < size; i++) {
                if (!works[i].isOpen()) {
                    those |= works[i].bit;
                }
            }
            return those;
        }

        long allDone(int now) {
            long those = 0;
            for (int i = 0; i < size; i++) {
                if (works[i].isDone(now)) {
                    those |= works[i].bit;
                }
            }
            return those;
        }

        /** The ready work with the least slack that was not tried; null if there is none. */
        Work mostPressing(long tried) {
            long put = allThatArePut();
            Work found = null;
            for (int i = 0; i < size; i++) {
                Work w = works[i];
                boolean isMeant = (tried & w.bit) == 0 && w.isReady(put);
                if (isMeant && (found == null || slackOf(w) < slackOf(found))) {
                    found = w;
                }
            }
            return found;
        }

        /** The shift behind all that a work needs; behind the last one if some of that is open. */
        int readyFrom(Work w) {
            int from = 0;
            for (int i = 0; i < size; i++) {
                Work needed = works[i];
                if (w.leansOn(needed)) {
                    from = Math.max(from, needed.isOpen() ? SHIFTS : needed.behind());
                }
            }
            return from;
        }

        /** Where a work must be over, for the sake of those that need it. */
        int dueBy(Work w) {
            int due = SHIFTS;
            for (int i = 0; i < size; i++) {
                Work later = works[i];
                if (later.leansOn(w) && !later.isOpen()) {
                    due = Math.min(due, later.shift);
                }
            }
            return due;
        }

        /** What a failed test opens; a round for each work, since each may open the next one. */
        long openedWith(Work test, int now) {
            long done = allDone(now);
            long opened = (test.bit | test.toldOf) & done;
            for (int round = 0; round < size; round++) {
                opened |= needersOf(opened) & done;
            }
            return opened;
        }

        private long needersOf(long those) {
            long needers = 0;
            for (int i = 0; i < size; i++) {
                if ((works[i].needs & those) != 0) {
                    needers |= works[i].bit;
                }
            }
            return needers;
        }

        int askedOfTrade(int trade) {
            int asked = 0;
            for (int i = 0; i < size; i++) {
                if (works[i].trade == trade) {
                    asked += works[i].length * works[i].hands;
                }
            }
            return asked;
        }

        int askedOfGood(int good) {
            return lengthOf(takers[good]);
        }

        int askedOfSpace(int space) {
            return lengthOf(dwellers[space]);
        }

        private int lengthOf(long those) {
            int sum = 0;
            for (int i = 0; i < size; i++) {
                if ((those & works[i].bit) != 0) {
                    sum += works[i].length;
                }
            }
            return sum;
        }
    }

    /** The shifts: which is now, and what is in each of them. */
    private static final class Board {
        final long[] within = new long[SHIFTS];
        final int[][] hands = new int[TRADES][SHIFTS];
        int now;

        void lay(Work w, int shift) {
            w.shift = shift;
            int[] ofTrade = hands[w.trade];
            for (int s = shift; s < w.behind(); s++) {
                within[s] |= w.bit;
                ofTrade[s] += w.hands;
            }
        }

        void lift(Work w) {
            if (w.isOpen()) {
                return;
            }
            int[] ofTrade = hands[w.trade];
            for (int s = w.shift; s < w.behind(); s++) {
                within[s] &= ~w.bit;
                ofTrade[s] -= w.hands;
            }
            w.shift = NONE;
        }

        void lengthen(Work w, int n) {
            int shift = w.shift;
            lift(w);
            w.length += n;
            if (shift != NONE) {
                lay(w, shift);
            }
        }
    }

    /**
     * What stands against a work in a shift. The work itself is always counted in, once,
     * so that the same tests serve one that is there and one that might be put there.
     */
    private static final class Rules {
        final int[] gangs = {4, 4, 4, 4};
        final int[] goods = {1, 1, 1, 1};
        final Ground ground;
        final Net net;
        final Board board;

        Rules(Ground ground, Net net, Board board) {
            this.ground = ground;
            this.net = net;
            this.board = board;
        }

        /** Shifts are asked about far more often than bars change: so the works know their foes. */
        void markFoes() {
            for (int i = 0; i < net.size; i++) {
                net.works[i].foes = foesOf(net.works[i]);
            }
        }

        private long foesOf(Work w) {
            long foes = 0;
            for (int i = 0; i < net.size; i++) {
                Work other = net.works[i];
                if (other != w && ground.keepsApart(w, other)) {
                    foes |= other.bit;
                }
            }
            return foes;
        }

        private boolean isBroken(Work w, int rule, int shift) {
            switch (rule) {
                case NEEDS_RULE: return shift == w.shift && net.readyFrom(w) > shift;
                case HANDS_RULE: return lacksHands(w, shift);
                case GOOD_RULE: return lacksGood(w, shift);
                case SPACE_RULE: return lacksRoom(w, shift);
                case BAR_RULE: return meetsFoe(w, shift);
                default: return false;
            }
        }

        private boolean lacksHands(Work w, int shift) {
            int there = board.hands[w.trade][shift];
            boolean isIn = (board.within[shift] & w.bit) != 0;
            return (isIn ? there : there + w.hands) > gangs[w.trade];
        }

        private boolean lacksGood(Work w, int shift) {
            if (w.good == NONE) {
                return false;
            }
            long takers = (board.within[shift] | w.bit) & net.takers[w.good];
            return Long.bitCount(takers) > goods[w.good];
        }

        private boolean lacksRoom(Work w, int shift) {
            long dwellers = (board.within[shift] | w.bit) & net.dwellers[w.space];
            return Long.bitCount(dwellers) > ground.bears[w.space];
        }

        private boolean meetsFoe(Work w, int shift) {
            return (board.within[shift] & w.foes) != 0;
        }

        private boolean isFree(Work w, int shift) {
            return !lacksHands(w, shift) && !lacksGood(w, shift)
                && !lacksRoom(w, shift) && !meetsFoe(w, shift);
        }

        /** The least rule that a work breaks; NONE if it breaks none, or is open. */
        int leastBroken(Work w) {
            for (int rule = NEEDS_RULE; rule <= BAR_RULE; rule++) {
                if (leastShift(w, rule) != NONE) {
                    return rule;
                }
            }
            return NONE;
        }

        int leastShift(Work w, int rule) {
            if (w.isOpen()) {
                return NONE;
            }
            for (int shift = w.shift; shift < w.behind(); shift++) {
                if (isBroken(w, rule, shift)) {
                    return shift;
                }
            }
            return NONE;
        }

        /** The first shift, from one on and not below now, where a work may be put; NONE if there is none. */
        int firstPlace(Work w, int from) {
            int due = net.dueBy(w);
            int free = 0;
            for (int s = Math.max(Math.max(from, board.now), net.readyFrom(w)); s < due; s++) {
                free = isFree(w, s) ? free + 1 : 0;
                if (free == w.length) {
                    return s - w.length + 1;
                }
            }
            return NONE;
        }
    }

    /** The search through all orders of a few works for the one with the soonest end. */
    private static final class Orders {
        final int[] places = new int[MOST_ORDERED];
        final Net net;
        final Board board;
        final Rules rules;
        int soonest;

        Orders(Net net, Board board, Rules rules) {
            this.net = net;
            this.board = board;
            this.rules = rules;
        }

        int layBest() {
            soonest = SHIFTS + 1;
            layNext(0, 0);
            if (soonest > SHIFTS) {
                return NONE;
            }
            for (int i = 0; i < net.size && i < MOST_ORDERED; i++) {
                board.lay(net.works[i], places[i]);
            }
            return soonest;
        }

        private void layNext(int laid, int endSoFar) {
            if (laid >= net.size || laid >= MOST_ORDERED) {
                keep(endSoFar);
                return;
            }
            long put = net.allThatArePut();
            for (int i = 0; i < net.size; i++) {
                if (net.works[i].isReady(put)) {
                    layAndGoOn(net.works[i], laid, endSoFar);
                }
            }
        }

        /** Of orders with like ends the first one stands: so one that is not sooner is left at once. */
        private void layAndGoOn(Work w, int laid, int endSoFar) {
            int place = rules.firstPlace(w, 0);
            if (place == NONE || Math.max(endSoFar, place + w.length) >= soonest) {
                return;
            }
            board.lay(w, place);
            layNext(laid + 1, Math.max(endSoFar, w.behind()));
            board.lift(w);
        }

        private void keep(int end) {
            soonest = end;
            for (int i = 0; i < net.size && i < MOST_ORDERED; i++) {
                places[i] = net.works[i].shift;
            }
        }
    }
}
