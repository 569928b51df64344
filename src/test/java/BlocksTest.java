/** Blocks and duties: promises 20 and 21, counts 2 and 9, and promise 28. */
public final class BlocksTest {
    private static final int NONE = BusBlocks.NONE;

    public static void main(String[] args) {
        promise20();
        promise20Numbers();
        duties();
        dutiesAtTheLimit();
        noDuties();
        promise21WrongInputs();
        promise28();
        Check.finish();
    }

    private static void properties(BusBlocks x, int block, int... due) {
        for (int what = 0; what < due.length; what++) {
            Check.due("blockOf(" + block + ", " + what + ")", x.blockOf(block, what), due[what]);
        }
    }

    private static void promise20() {
        BusBlocks x = new BusBlocks();
        x.trip(0, 0, 1, 100, 20);
        x.trip(1, 1, 0, 130, 30);
        x.trip(1, 0, 2, 200, 40);
        x.trip(0, 2, 2, 250, 50);
        x.trip(3, 3, 3, 1439, 240);
        Check.chain(x, 0, 1, 2, 3);
        properties(x, 0, 0, 4, 200, 60, 2, 1, 1);
        properties(x, 1, 4, 1, 240, 0, 0, 1, 1);
        Check.noSuch("blockOf(2, 7)", () -> x.blockOf(2, 7));
        Check.noSuch("blockOf(-1, 0)", () -> x.blockOf(-1, 0));
        Check.badArgument("blockOf(0, 7)", () -> x.blockOf(0, 7));
        Check.badArgument("blockOf(1, -1)", () -> x.blockOf(1, -1));
    }

    private static void promise20Numbers() {
        BusBlocks x = new BusBlocks();
        x.trip(0, 0, 0, 300, 10);
        x.trip(0, 0, 0, 200, 10);
        x.trip(0, 0, 0, 100, 10);
        x.trip(0, 0, 0, 400, 10);
        Check.chain(x, 2, 0);
        int[] blocks = {1, 0, 1, 2};
        for (int trip = 0; trip < 4; trip++) {
            Check.due("tripOf(" + trip + ", 7)", x.tripOf(trip, 7), blocks[trip]);
        }
        Check.due("count(2)", x.count(2), 3);
        Check.due("by first trips, not lowest ones", x.blockOf(1, 0), 2);
        x.set(2, 0);
        x.fail(1);
        Check.due("lost ones are no block", x.count(2), 2);
        Check.due("block 0", x.blockOf(0, 0), 2);
        Check.due("block 1", x.blockOf(1, 0), 3);
    }

    private static void dutyIs(BusBlocks x, int block, int rank, int first, int last, int hours) {
        Check.due("duty(" + block + ", " + rank + ", 0)", x.duty(block, rank, 0), first);
        Check.due("duty(" + block + ", " + rank + ", 1)", x.duty(block, rank, 1), last);
        Check.due("duty(" + block + ", " + rank + ", 2)", x.duty(block, rank, 2), hours);
    }

    /** A block 0, 1, .., of trips of 20 minutes, each half an hour, between the terminals told. */
    private static BusBlocks line(int... terminals) {
        BusBlocks x = new BusBlocks();
        for (int trip = 0; trip + 1 < terminals.length; trip++) {
            x.trip(0, terminals[trip], terminals[trip + 1], 100 + 30 * trip, 20);
            if (trip > 0) {
                Check.chain(x, trip - 1, trip);
            }
        }
        return x;
    }

    private static void duties() {
        BusBlocks x = line(0, 0, 2, 0, 2, 2, 0);
        x.set(1, 80);
        properties(x, 0, 0, 6, 170, 50, 0, 2, 2);
        dutyIs(x, 0, 0, 0, 2, 80);
        dutyIs(x, 0, 1, 3, 5, 80);
        x.set(1, 79);
        properties(x, 0, 0, 6, 170, 50, 0, NONE, NONE);
        dutyIs(x, 0, 0, NONE, NONE, NONE);
        x.relief(2);
        properties(x, 0, 0, 6, 170, 50, 0, 3, 3);
        dutyIs(x, 0, 0, 0, 1, 50);
        dutyIs(x, 0, 2, 4, 5, 50);
        dutyIs(x, 0, 3, NONE, NONE, NONE);
        Check.due("a rank far above", x.duty(0, Integer.MAX_VALUE, 0), NONE);
        x.set(1, 480);
        properties(x, 0, 0, 6, 170, 50, 0, 1, 1);
        dutyIs(x, 0, 0, 0, 5, 170);
        dutyIs(x, 0, 1, NONE, NONE, NONE);
    }

    private static void dutiesAtTheLimit() {
        BusBlocks x = line(0, 1, 0, 1, 0);
        x.set(1, 110);
        Check.due("just the hours", x.blockOf(0, 5), 1);
        x.set(1, 109);
        Check.due("a minute less", x.blockOf(0, 5), 2);
        dutyIs(x, 0, 0, 0, 2, 80);
        dutyIs(x, 0, 1, 3, 3, 20);
        Check.due("backwards", x.blockOf(0, 6), 2);
        x.relief(1);
        dutyIs(x, 0, 0, 0, 1, 50);
        dutyIs(x, 0, 1, 2, 3, 50);
        x.relief(0);
        Check.due("no point of relief", x.blockOf(0, 5), NONE);
        Check.due("no point of relief, backwards", x.blockOf(0, 6), NONE);
        Check.due("count(9)", x.count(9), NONE);
    }

    private static void noDuties() {
        BusBlocks x = new BusBlocks();
        Check.due("count(9) without blocks", x.count(9), 0);
        x.trip(0, 0, 0, 0, 30);
        x.trip(0, 0, 0, 100, 61);
        x.trip(0, 0, 0, 500, 60);
        Check.due("a duty a block", x.count(9), 3);
        x.set(1, 60);
        Check.due("a trip that is too long", x.count(9), NONE);
        Check.due("the others can be cut", x.blockOf(2, 5), 1);
        Check.due("the long one cannot", x.blockOf(1, 5), NONE);
        Check.due("the long one cannot, backwards", x.blockOf(1, 6), NONE);
        Check.chain(x, 0, 1);
        Check.due("no first duty, if the block cannot be cut", x.duty(0, 0, 0), NONE);
        x.set(2, 0);
        x.fail(1);
        Check.due("lost trips need none", x.count(9), 2);
        x.undo();
        x.set(1, 61);
        Check.due("two duties and one", x.count(9), 3);
        dutyIs(x, 0, 1, 1, 1, 61);
    }

    private static void promise21WrongInputs() {
        BusBlocks x = line(0, 1);
        Check.noSuch("duty(1, -1, 3)", () -> x.duty(1, -1, 3));
        Check.noSuch("duty(-1, 0, 0)", () -> x.duty(-1, 0, 0));
        Check.badArgument("duty(0, -1, 0)", () -> x.duty(0, -1, 0));
        Check.badArgument("duty(0, 0, 3)", () -> x.duty(0, 0, 3));
        Check.badArgument("duty(0, 0, -1)", () -> x.duty(0, 0, -1));
        Check.badArgument("duty(0, 5, 3)", () -> x.duty(0, 5, 3));
    }

    private static void promise28() {
        BusBlocks x = new BusBlocks();
        Check.dueShare("without blocks", x.drivenShare(), 1.0);
        x.trip(0, 0, 0, 100, 10);
        x.trip(0, 0, 0, 190, 10);
        Check.dueShare("alone", x.drivenShare(), 1.0);
        Check.chain(x, 0, 1);
        Check.dueShare("one block", x.drivenShare(), 20.0 / 100.0);
        x.trip(0, 1, 1, 0, 7);
        Check.dueShare("two blocks", x.drivenShare(), 27.0 / 107.0);
        x.set(2, 0);
        x.fail(0);
        Check.dueShare("lost ones are left out", x.drivenShare(), 1.0);
        x.fail(2);
        Check.dueShare("all are lost", x.drivenShare(), 1.0);
    }
}
