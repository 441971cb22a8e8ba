/** Yards to start from. */
final class Yards {
    /** Numbers that no work, space, trade, good or kind has; those from 32 on have the bits of small ones. */
    static final int[] NO_NUMBERS = {-1, -2, -32, -64, 40, 41, 64, 65, 128, 400,
        Integer.MIN_VALUE, Integer.MIN_VALUE + 1, Integer.MAX_VALUE, Integer.MAX_VALUE - 1};

    /** The works of a busy yard, by what they are. */
    static final int DONE = 0;
    static final int DONE_TOO = 1;
    static final int DONE_TEST = 2;
    static final int BEGUN = 3;
    static final int BEGUN_TEST = 4;
    static final int PUT_NOW = 5;
    static final int PUT = 6;
    static final int PUT_TEST = 7;
    static final int OPEN = 8;
    static final int OPEN_TEST = 9;
    static final int AGAIN = 10;
    static final int AGAIN_TEST = 11;
    static final int LONE = 12;
    static final int BUSY_WORKS = 13;

    static final int BUSY_SPACES = 4;
    static final int BUSY_NOW = 5;

    private Yards() {
    }

    static RefitYard bare() {
        return new RefitYard();
    }

    static int what(int length, int hands, int trade, int kind, int space) {
        return length * 100000 + hands * 10000 + trade * 1000 + kind * 100 + space;
    }

    /** A plain work of one hand in space 0, without a good. */
    static int plain(RefitYard yard, int length) {
        return yard.work(what(length, 1, 0, 0, 0), RefitYard.NONE);
    }

    static int test(RefitYard yard, int length) {
        return yard.work(what(length, 1, 0, 4, 0), RefitYard.NONE);
    }

    /** So much of everything that only what an edge is about can be too little. */
    static RefitYard ample(int spaces) {
        RefitYard yard = new RefitYard();
        for (int i = 0; i < spaces; i++) {
            yard.space(9);
        }
        for (int k = 0; k < 4; k++) {
            yard.gang(k, 99);
            yard.good(k, 9);
        }
        return yard;
    }

    /** An ample yard with so many plain works of a length. */
    static RefitYard ofPlain(int works, int length) {
        RefitYard yard = ample(1);
        for (int i = 0; i < works; i++) {
            plain(yard, length);
        }
        return yard;
    }

    static RefitYard fullOfSpaces() {
        return ample(20);
    }

    static RefitYard fullOfWorks() {
        return ofPlain(40, 1);
    }

    /** Every gang and good is just used up: one more or one fewer of any shows. */
    static RefitYard usedUp() {
        RefitYard yard = ample(4);
        for (int k = 0; k < 4; k++) {
            yard.gang(k, 5);
            yard.good(k, 2);
            for (int hands : new int[] {3, 2, 1}) {
                yard.work(what(1, hands, k, 0, k), RefitYard.NONE);
            }
            for (int i = 0; i < 3; i++) {
                yard.work(what(1, 1, k, 0, k), k);
            }
            yard.put(k * 6, 0);
            yard.put(k * 6 + 1, 0);
            yard.put(k * 6 + 3, 3);
            yard.put(k * 6 + 4, 3);
        }
        return yard;
    }

    /** A yard in the midst of its life, with works of every state. */
    static RefitYard busy() {
        RefitYard yard = new RefitYard();
        layGround(yard);
        addWorks(yard);
        hangTogether(yard);
        letPass(yard);
        return yard;
    }

    private static void layGround(RefitYard yard) {
        for (int bears : new int[] {2, 1, 9, 9}) {
            yard.space(bears);
        }
        yard.near(0, 1);
        yard.near(1, 2);
        yard.gang(0, 9);
        yard.gang(1, 3);
        yard.gang(2, 2);
        yard.good(0, 2);
        yard.good(1, 0);
        yard.bar(1, 2, 0);
        yard.bar(1, 3, 1);
        yard.bar(2, 2, 2);
    }

    private static void addWorks(RefitYard yard) {
        int none = RefitYard.NONE;
        yard.work(what(2, 1, 0, 0, 2), none);
        yard.work(what(1, 1, 0, 0, 2), none);
        yard.work(what(1, 1, 0, 4, 2), none);
        yard.work(what(6, 1, 0, 0, 3), none);
        yard.work(what(4, 1, 0, 4, 3), none);
        yard.work(what(2, 1, 1, 0, 2), 0);
        yard.work(what(3, 1, 0, 0, 3), 0);
        yard.work(what(1, 1, 0, 4, 3), none);
        yard.work(what(2, 1, 0, 1, 2), none);
        yard.work(what(1, 1, 0, 4, 2), none);
        yard.work(what(1, 1, 0, 3, 3), none);
        yard.work(what(1, 1, 0, 4, 3), none);
        yard.work(what(3, 1, 0, 0, 2), none);
    }

    private static void hangTogether(RefitYard yard) {
        yard.need(DONE_TOO, DONE);
        yard.tells(DONE_TEST, DONE_TOO);
        yard.need(BEGUN, DONE);
        yard.tells(BEGUN_TEST, DONE);
        yard.need(PUT, PUT_NOW);
        yard.tells(PUT_TEST, PUT);
        yard.need(OPEN, PUT);
        yard.tells(OPEN_TEST, OPEN);
        yard.tells(AGAIN_TEST, AGAIN);
    }

    private static void letPass(RefitYard yard) {
        int[][] places = {{DONE, 0}, {DONE_TOO, 2}, {DONE_TEST, 3}, {BEGUN, 3}, {BEGUN_TEST, 3},
            {PUT_NOW, BUSY_NOW}, {PUT, 10}, {PUT_TEST, 20}, {AGAIN, 0}, {AGAIN_TEST, 1}};
        for (int[] place : places) {
            yard.put(place[0], place[1]);
        }
        yard.go(4);
        yard.fail(AGAIN_TEST);
        yard.go(BUSY_NOW - 4);
    }
}
