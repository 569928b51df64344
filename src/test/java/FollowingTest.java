/** What follows what, and blocking all: promises 7, 8, 9 and 24, and counts 3 and 7. */
public final class FollowingTest {
    private static final int NONE = BusBlocks.NONE;

    public static void main(String[] args) {
        promise7And24();
        reasonsInOrder();
        promise7WrongInputs();
        promise8();
        promise9();
        promise9LongestWaiting();
        promise9OrderOfTaking();
        promise9Routes();
        Check.finish();
    }

    private static void promise7And24() {
        BusBlocks x = new BusBlocks();
        x.trip(0, 0, 1, 100, 20);
        x.trip(0, 1, 2, 125, 20);
        x.trip(0, 1, 2, 124, 20);
        x.trip(1, 1, 2, 125, 20);
        Check.due("whyNot(1, 0)", x.whyNot(1, 0), 0);
        Check.due("whyNot(2, 0)", x.whyNot(2, 0), 4);
        Check.due("whyNot(0, 1)", x.whyNot(0, 1), 3);
        Check.due("whyNot(3, 0)", x.whyNot(3, 0), 0);
        x.set(0, 0);
        Check.due("whyNot(3, 0) unlike routes", x.whyNot(3, 0), 5);
        Check.due("whyNot(1, 0) like routes", x.whyNot(1, 0), 0);
        Check.due("whyNot changes nothing", x.count(7) + x.count(10), 5);
        Check.due("follow(3, 0)", x.follow(3, 0), 5);
        Check.due("refused", x.count(7), 1);
        Check.due("saved, also if it is refused", x.count(10), 6);
        Check.due("follow(1, 0)", x.follow(1, 0), 0);
        Check.due("follows", x.tripOf(1, 5), 0);
        Check.due("is followed", x.tripOf(0, 6), 1);
        Check.due("follow(1, 0) again", x.follow(1, 0), 2);
        Check.due("refused", x.count(7), 2);
        Check.due("blocks", x.count(2), 3);
        x.undo();
        Check.due("undo takes a refusal back", x.count(7), 1);
        x.undo();
        Check.due("undone", x.tripOf(1, 5), NONE);
        x.undo();
        Check.due("no refusal", x.count(7), 0);
    }

    private static void reasonsInOrder() {
        BusBlocks x = new BusBlocks();
        x.trip(0, 0, 1, 100, 20);
        x.trip(0, 1, 2, 200, 20);
        x.trip(1, 3, 2, 50, 20);
        x.trip(1, 1, 2, 50, 20);
        x.trip(1, 1, 2, 300, 20);
        x.set(0, 0);
        Check.chain(x, 0, 1);
        Check.due("2 ahead of 3, 4, 5: the first one is followed", x.whyNot(2, 0), 2);
        Check.due("2: the second one follows", x.whyNot(1, 3), 2);
        Check.due("3 ahead of 4 and 5", x.whyNot(2, 1), 3);
        x.part(0);
        Check.due("4 ahead of 5", x.whyNot(3, 0), 4);
        Check.due("5", x.whyNot(4, 0), 5);
        Check.chain(x, 0, 1);
        x.set(2, 0);
        x.fail(3);
        Check.due("1 ahead of all: the second one is lost", x.whyNot(3, 0), 1);
        Check.due("1: the first one is lost", x.whyNot(1, 3), 1);
        Check.due("a trip and itself, lost", x.whyNot(3, 3), 1);
        Check.due("a trip and itself", x.whyNot(2, 2), 3);
        Check.due("follow tells the same", x.follow(3, 0), 1);
        BusBlocks round = new BusBlocks();
        round.layover(2, 0);
        round.trip(0, 2, 2, 0, 1);
        Check.due("never itself", round.whyNot(0, 0), 4);
        round.trip(0, 2, 2, 1, 1);
        Check.due("without a layover", round.follow(1, 0), 0);
        Check.due("itself, in a block", round.whyNot(0, 0), 2);
    }

    private static void promise7WrongInputs() {
        BusBlocks x = new BusBlocks();
        x.trip(0, 0, 0, 0, 1);
        int[][] wrong = {{0, 1}, {1, 0}, {-1, 0}, {0, -1}, {1, 1}};
        for (int[] w : wrong) {
            Check.refusedBy(x, "follow", () -> x.follow(w[0], w[1]), "IndexOutOfBoundsException");
            Check.refusedBy(x, "whyNot", () -> x.whyNot(w[0], w[1]), "IndexOutOfBoundsException");
        }
        Check.due("nothing is refused", x.count(7), 0);
    }

    private static void promise8() {
        BusBlocks x = new BusBlocks();
        for (int trip = 0; trip < 4; trip++) {
            x.trip(0, 0, 0, 100 * trip, 10);
        }
        Check.chain(x, 0, 2, 3);
        Check.due("part(0)", x.part(0), 2);
        Check.due("followed by none", x.tripOf(0, 6), NONE);
        Check.due("follows none", x.tripOf(2, 5), NONE);
        Check.due("the rest stays", x.tripOf(2, 6), 3);
        Check.due("its block", x.tripOf(3, 7), 2);
        Check.refusedBy(x, "part(0)", () -> x.part(0), "IllegalStateException");
        Check.refusedBy(x, "part(3)", () -> x.part(3), "IllegalStateException");
        Check.refusedBy(x, "part(4)", () -> x.part(4), "IndexOutOfBoundsException");
        Check.refusedBy(x, "part(-1)", () -> x.part(-1), "IndexOutOfBoundsException");
        x.undo();
        Check.due("undone", x.tripOf(2, 5), 0);
        x.set(2, 0);
        x.fail(2);
        Check.refusedBy(x, "part of a lost one", () -> x.part(2), "IllegalStateException");
    }

    private static void promise9() {
        BusBlocks x = new BusBlocks();
        Check.due("blockAll() without trips", x.blockAll(), 0);
        Check.due("saved, also if it changes nothing", x.count(10), 1);
        x.trip(0, 0, 1, 100, 10);
        x.trip(0, 1, 0, 300, 10);
        x.trip(0, 1, 0, 200, 10);
        Check.chain(x, 0, 1);
        Check.due("count(3)", x.count(3), 2);
        Check.due("count(3) changes nothing", x.tripOf(1, 5), 0);
        Check.due("blockAll()", x.blockAll(), 2);
        Check.due("parted first, the earlier one is taken first", x.tripOf(0, 6), 2);
        Check.due("then nothing waits", x.tripOf(1, 5), NONE);
        x.undo();
        Check.due("undone", x.tripOf(0, 6), 1);
        x.set(2, 0);
        x.fail(1);
        Check.due("a lost one is left out", x.blockAll(), 1);
        Check.due("a lost one follows none", x.tripOf(1, 5), NONE);
        Check.due("count(3)", x.count(3), 1);
    }

    private static void promise9LongestWaiting() {
        BusBlocks x = new BusBlocks();
        x.trip(0, 0, 1, 100, 60);
        x.trip(0, 0, 1, 110, 20);
        x.trip(0, 0, 1, 105, 25);
        x.trip(0, 1, 2, 300, 10);
        x.trip(0, 1, 2, 300, 10);
        x.trip(0, 1, 2, 135, 10);
        Check.due("blockAll()", x.blockAll(), 3);
        Check.due("of equal arrivals the lowest", x.tripOf(5, 5), 1);
        Check.due("the earliest arrival, not departure", x.tripOf(3, 5), 2);
        Check.due("then the next", x.tripOf(4, 5), 0);
        x.layover(1, 60);
        Check.due("with layovers", x.blockAll(), 4);
        Check.due("too early now", x.tripOf(5, 5), NONE);
    }

    private static void promise9OrderOfTaking() {
        BusBlocks x = new BusBlocks();
        x.trip(0, 3, 1, 0, 10);
        x.trip(0, 1, 2, 500, 10);
        x.trip(0, 1, 2, 500, 20);
        x.blockAll();
        Check.due("of equal departures the lowest", x.tripOf(0, 6), 1);
        x.shift(2, 499);
        x.blockAll();
        Check.due("by departures", x.tripOf(0, 6), 2);
        x.shift(0, 700);
        x.trip(0, 2, 3, 650, 10);
        x.shift(3, 650);
        x.blockAll();
        Check.due("trip 3 follows the one that waits longest", x.tripOf(3, 5), 1);
        BusBlocks late = new BusBlocks();
        late.trip(0, 1, 2, 500, 10);
        late.trip(0, 0, 1, 400, 10);
        Check.due("trip 0 follows, too", late.blockAll(), 1);
        Check.due("trip 0 follows trip 1", late.tripOf(0, 5), 1);
    }

    private static void promise9Routes() {
        BusBlocks x = new BusBlocks();
        x.trip(0, 0, 1, 0, 10);
        x.trip(1, 0, 1, 1, 10);
        x.trip(1, 1, 0, 100, 10);
        x.trip(0, 1, 0, 101, 10);
        Check.due("shared", x.blockAll(), 2);
        Check.due("shared: by waiting", x.tripOf(2, 5), 0);
        x.set(0, 0);
        Check.due("what follows stays", x.tripOf(2, 5), 0);
        Check.due("not shared", x.blockAll(), 2);
        Check.due("not shared: by routes", x.tripOf(2, 5), 1);
        x.trip(2, 1, 0, 200, 10);
        Check.due("a route alone", x.blockAll(), 3);
    }
}
