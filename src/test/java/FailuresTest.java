/** Buses that fail: promises 10 and 27, and counts 5 and 6. */
public final class FailuresTest {
    private static final int NONE = BusBlocks.NONE;

    public static void main(String[] args) {
        spareTakesOver();
        noSpare();
        noWait();
        waitAtTheLimit();
        sparesUsedUp();
        wrongInputs();
        Check.finish();
    }

    /** A block of trips 0 to 4, which go each twenty minutes from 100 on. */
    private static BusBlocks line() {
        BusBlocks x = new BusBlocks();
        for (int trip = 0; trip < 5; trip++) {
            x.trip(0, 0, 0, 100 + 20 * trip, 10);
        }
        Check.chain(x, 0, 1, 2, 3, 4);
        return x;
    }

    private static void lost(BusBlocks x, int... due) {
        for (int trip = 0; trip < due.length; trip++) {
            Check.due("tripOf(" + trip + ", 8)", x.tripOf(trip, 8), due[trip]);
        }
    }

    private static void spareTakesOver() {
        BusBlocks x = line();
        Check.due("ifFailed(1)", x.ifFailed(1), 2);
        Check.due("ifFailed(4)", x.ifFailed(4), 1);
        Check.due("ifFailed changes nothing", x.count(6), 0);
        Check.due("fail(1)", x.fail(1), 2);
        lost(x, 0, 1, 1, 0, 0);
        Check.due("blocks", x.count(2), 2);
        Check.due("those ahead", x.tripOf(0, 6), NONE);
        Check.due("those behind do not follow", x.tripOf(3, 5), NONE);
        Check.due("those behind stay one block", x.tripOf(4, 5), 3);
        Check.due("a lost one follows none", x.tripOf(1, 5), NONE);
        Check.due("a lost one is followed by none", x.tripOf(2, 6), NONE);
        Check.due("spares left", x.count(5), 0);
        Check.due("failures", x.count(6), 1);
        Check.due("undo()", x.undo(), 5);
        lost(x, 0, 0, 0, 0, 0);
        Check.due("the spare is back", x.count(5), 1);
        Check.due("no failure", x.count(6), 0);
        Check.due("one block", x.count(2), 1);
    }

    private static void noSpare() {
        BusBlocks x = line();
        x.set(2, 0);
        Check.due("ifFailed(2)", x.ifFailed(2), 3);
        Check.due("fail(2)", x.fail(2), 3);
        lost(x, 0, 0, 1, 1, 1);
        Check.due("blocks", x.count(2), 1);
        Check.due("those ahead stay", x.tripOf(1, 5), 0);
        Check.due("then nothing", x.tripOf(1, 6), NONE);
        Check.due("failures", x.count(6), 1);
        x.set(2, 1);
        Check.due("no spare was used", x.count(5), 1);
        Check.due("fail(0)", x.fail(0), 2);
        Check.due("no block", x.count(2), 0);
    }

    private static void noWait() {
        BusBlocks x = line();
        x.set(3, 0);
        Check.due("ifFailed(2)", x.ifFailed(2), 0);
        Check.due("fail(2)", x.fail(2), 0);
        lost(x, 0, 0, 0, 0, 0);
        Check.due("it does not follow any more", x.tripOf(2, 5), NONE);
        Check.due("those behind follow it", x.tripOf(3, 5), 2);
        Check.due("the spare is used", x.count(5), 0);
        Check.due("failures", x.count(6), 1);
        Check.due("the next one: no spare", x.fail(0), 2);
        Check.due("failures", x.count(6), 2);
    }

    private static void waitAtTheLimit() {
        BusBlocks x = line();
        x.set(3, 40);
        Check.due("earlier than 140", x.ifFailed(0), 2);
        x.set(3, 41);
        Check.due("earlier than 141", x.ifFailed(0), 3);
        x.set(3, 240);
        Check.due("all", x.ifFailed(0), 5);
        x.set(3, 1);
        Check.due("earlier than 101", x.ifFailed(0), 1);
    }

    private static void sparesUsedUp() {
        BusBlocks x = new BusBlocks();
        for (int trip = 0; trip < 4; trip++) {
            x.trip(0, 0, 0, 100, 10);
        }
        x.set(2, 2);
        Check.due("fail(0)", x.fail(0), 1);
        Check.due("fail(1)", x.fail(1), 1);
        Check.due("spares left", x.count(5), 0);
        x.set(2, 1);
        Check.due("not below 0", x.count(5), 0);
        x.set(2, 3);
        Check.due("one more", x.count(5), 1);
        Check.due("fail(2)", x.fail(2), 1);
        Check.due("fail(3)", x.fail(3), 1);
        x.set(2, 9);
        Check.due("three were used, of four", x.count(5), 6);
        Check.due("failures", x.count(6), 4);
        Check.due("trips", x.count(0), 4);
        Check.due("run", x.count(1), 0);
    }

    private static void wrongInputs() {
        BusBlocks x = line();
        x.fail(4);
        int[] none = {-1, 5};
        for (int trip : none) {
            Check.refusedBy(x, "fail(" + trip + ")", () -> x.fail(trip), "IndexOutOfBoundsException");
            Check.refusedBy(x, "ifFailed(" + trip + ")", () -> x.ifFailed(trip), "IndexOutOfBoundsException");
        }
        Check.refusedBy(x, "fail(4)", () -> x.fail(4), "IllegalStateException");
        Check.refusedBy(x, "ifFailed(4)", () -> x.ifFailed(4), "IllegalStateException");
        Check.due("failures", x.count(6), 1);
    }
}
