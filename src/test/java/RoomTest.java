import java.lang.management.ManagementFactory;

/** All calls of a run live in one room: no call makes an object or an array, but for the exceptions. */
public final class RoomTest {
    private static final int OBJECTS = 32;
    private static final int ROUNDS = 18;
    private static final long FEW_BYTES = 64 * 1024;

    public static void main(String[] args) {
        everyCall(full(), ROUNDS);
        BusBlocks[] objects = new BusBlocks[OBJECTS];
        for (int place = 0; place < OBJECTS; place++) {
            objects[place] = full();
        }
        long before = allocated();
        for (BusBlocks x : objects) {
            everyCall(x, ROUNDS);
        }
        long made = allocated() - before;
        Check.due("many bytes made by the calls of " + OBJECTS + " objects: " + made, made > FEW_BYTES ? 1 : 0, 0);
        before = allocated();
        full();
        made = allocated() - before;
        Check.due("many bytes made by a new object: " + made, made > FEW_BYTES ? 1 : 0, 0);
        Check.finish();
    }

    private static long allocated() {
        com.sun.management.ThreadMXBean bean = (com.sun.management.ThreadMXBean) ManagementFactory.getThreadMXBean();
        return bean.getThreadAllocatedBytes(Thread.currentThread().getId());
    }

    private static BusBlocks full() {
        BusBlocks x = new BusBlocks();
        for (int trip = 0; trip < 19; trip++) {
            x.trip(trip % 3, trip % 2, (trip + 1) % 2, 300 + 41 * trip, 25 + trip);
        }
        return x;
    }

    private static void everyCall(BusBlocks x, int rounds) {
        x.keep(0);
        for (int round = 0; round < rounds; round++) {
            x.goBack(0);
            x.layover(round % 4, round % 61);
            x.relief(round % 4);
            x.set(3, round % 241);
            x.blockAll();
            x.shift(round % 19, round);
            x.follow(round % 19, (round + 1) % 19);
            x.fail(round % 19);
            type(x);
            x.firstError();
            x.load();
            x.digest();
            x.bestTime(19, 120);
            x.undo();
        }
    }

    private static void type(BusBlocks x) {
        String text = "012@1439+240";
        for (int index = 0; index < text.length(); index++) {
            x.append(text.charAt(index));
        }
    }
}
