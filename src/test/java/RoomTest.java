import java.lang.management.ManagementFactory;

/** A run lives in one small room: the dearest calls may not make anything, however often they come. */
public final class RoomTest {
    private static final Check CHECK = new Check("RoomTest");
    private static final long ROOM_OF_A_YARD = 64 * 1024;
    private static final long ROOM_OF_ALL_CALLS = 16 * 1024;

    private static final com.sun.management.ThreadMXBean THREADS =
        (com.sun.management.ThreadMXBean) ManagementFactory.getThreadMXBean();

    public static void main(String[] args) {
        bytesOfCalls(filled(40));
        long before = made();
        RefitYard full = filled(40);
        RefitYard few = filled(6);
        long forYards = made() - before;
        CHECK.yes("two yards are made of " + forYards + " bytes", forYards < 2 * ROOM_OF_A_YARD);
        long forFull = bytesOfCalls(full);
        CHECK.yes("512 calls on forty works make " + forFull + " bytes", forFull < ROOM_OF_ALL_CALLS);
        long forFew = bytesOfCalls(few);
        CHECK.yes("512 calls on six works make " + forFew + " bytes", forFew < ROOM_OF_ALL_CALLS);
        CHECK.finish();
    }

    private static long made() {
        return THREADS.getThreadAllocatedBytes(Thread.currentThread().getId());
    }

    private static RefitYard filled(int works) {
        RefitYard yard = new RefitYard();
        yard.space(9);
        yard.space(2);
        yard.near(0, 1);
        yard.bar(1, 2, 1);
        for (int w = 0; w < works; w++) {
            yard.work((w % 7 + 1) * 100000 + (w % 4 + 1) * 10000 + w % 4 * 1000 + w % 5 * 100 + w % 2, w % 5 - 1);
            yard.need(w, w - 7);
        }
        return yard;
    }

    private static long bytesOfCalls(RefitYard yard) {
        long before = made();
        for (int n = 0; n < 32; n++) {
            yard.best();
            yard.take(n % 6);
            yard.plan();
            yard.why(0);
            yard.bound();
            yard.first(n, 0);
            yard.may(n, 399);
            yard.told(n, 10);
            yard.load(n, 4);
            yard.more(n, 1);
            yard.put(n, 300);
            for (int w = 0; w < 5; w++) {
                yard.take(w);
            }
        }
        return made() - before;
    }
}
