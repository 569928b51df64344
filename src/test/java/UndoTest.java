/** Snapshots and undo: promises 15 to 17, and count 10. */
public final class UndoTest {
    public static void main(String[] args) {
        promise15And16();
        promise16WhatIsKept();
        promise16WholeTrips();
        promise17();
        everyUndoableCall();
        notUndoableCalls();
        wrongInputs();
        Check.finish();
    }

    private static void promise15And16() {
        BusBlocks x = new BusBlocks();
        x.trip(0, 0, 0, 100, 10);
        Check.due("keep(0)", x.keep(0), 1);
        x.trip(0, 0, 0, 200, 10);
        Check.due("keep(1)", x.keep(1), 2);
        Check.chain(x, 0, 1);
        Check.due("goBack(0)", x.goBack(0), 1);
        Check.due("goBack(1)", x.goBack(1), 2);
        Check.due("parted", x.count(2), 2);
        Check.due("a snapshot stays", x.goBack(0), 1);
        x.layover(0, 9);
        Check.due("a snapshot is not changed with the state", x.goBack(0) + x.terminalOf(0, 0), 6);
        x.layover(2, 17);
        Check.due("keep(0) in place of the other", x.keep(0), 1);
        Check.due("saved", x.count(10), 6);
        x.layover(2, 3);
        x.goBack(0);
        Check.due("the new snapshot", x.terminalOf(2, 0), 17);
        x.undo();
        Check.due("goBack is undone", x.terminalOf(2, 0), 3);
        x.undo();
        x.undo();
        Check.due("slots are not undone", x.goBack(0), 1);
        Check.due("the snapshot is whole", x.terminalOf(2, 0), 17);
    }

    private static void promise16WhatIsKept() {
        BusBlocks x = new BusBlocks();
        x.trip(0, 0, 0, 100, 10);
        x.trip(1, 0, 0, 200, 10);
        x.trip(2, 3, 2, 300, 10);
        Check.chain(x, 0, 1);
        x.layover(1, 8);
        x.relief(3);
        x.set(1, 300);
        x.set(2, 2);
        x.fail(2);
        x.follow(0, 0);
        x.keep(1);
        long due = x.digest();
        x.part(0);
        x.shift(1, 20);
        x.set(0, 0);
        x.set(1, 100);
        x.set(2, 3);
        x.set(3, 5);
        x.layover(1, 0);
        x.relief(3);
        x.fail(0);
        x.follow(0, 0);
        x.trip(3, 1, 2, 3, 4);
        Check.type(x, "0");
        x.goBack(1);
        Check.due("the buffer is not in a snapshot", x.clearBuffer(), 1);
        Check.due("all else is", x.digest(), due);
        Check.due("refused", x.count(7), 1);
        Check.due("failures", x.count(6), 1);
        Check.due("spares", x.count(5), 1);
    }

    /** Trips with all fields unlike, in place of others that a snapshot holds. */
    private static void promise16WholeTrips() {
        BusBlocks x = new BusBlocks();
        x.trip(1, 2, 3, 100, 10);
        x.keep(0);
        long due = x.digest();
        x.undo();
        x.trip(2, 3, 1, 200, 20);
        long other = x.digest();
        x.goBack(0);
        x.undo();
        Check.due("another trip, restored", x.digest(), other);
        Check.due("its arrival", x.tripOf(0, 4), 220);
        x.undo();
        x.goBack(0);
        Check.due("the trip of the snapshot", x.digest(), due);
        Check.due("its arrival", x.tripOf(0, 4), 110);
    }

    private static void promise17() {
        BusBlocks x = new BusBlocks();
        for (int minutes = 10; minutes <= 18; minutes++) {
            x.layover(0, minutes);
            Check.due("saved states", x.count(10), Math.min(6, minutes - 9));
        }
        for (int left = 5; left >= 0; left--) {
            Check.due("undo()", x.undo(), left);
            Check.due("saved states", x.count(10), left);
            Check.due("layover", x.terminalOf(0, 0), 12 + left);
        }
        Check.refusedBy(x, "undo()", x::undo, "IllegalStateException");
        x.layover(0, 30);
        x.layover(0, 31);
        x.undo();
        x.layover(0, 32);
        x.undo();
        Check.due("layover", x.terminalOf(0, 0), 30);
        Check.due("undo()", x.undo(), 0);
        Check.due("the oldest one was dropped", x.terminalOf(0, 0), 12);
    }

    /** Does a call, takes it back, and checks that all is as before. */
    private static void goesBack(BusBlocks x, String text, Check.Call call) {
        int saved = x.count(10);
        long before = x.digest();
        call.answer();
        Check.due("saved by " + text, x.count(10), saved + 1);
        Check.due("undo() of " + text, x.undo(), saved);
        Check.due("digest() behind " + text, x.digest(), before);
    }

    private static void everyUndoableCall() {
        BusBlocks x = new BusBlocks();
        x.trip(0, 0, 1, 100, 10);
        x.trip(1, 1, 0, 200, 10);
        x.trip(2, 0, 1, 300, 10);
        x.keep(0);
        Check.chain(x, 0, 1);
        goesBack(x, "layover", () -> x.layover(0, 50));
        goesBack(x, "the same layover", () -> x.layover(0, 5));
        goesBack(x, "relief", () -> x.relief(0));
        goesBack(x, "trip", () -> x.trip(0, 0, 1, 100, 10));
        goesBack(x, "shift", () -> x.shift(1, 250));
        goesBack(x, "set", () -> x.set(3, 0));
        goesBack(x, "the same setting", () -> x.set(0, 1));
        goesBack(x, "follow", () -> x.follow(2, 1));
        goesBack(x, "follow, refused", () -> x.follow(0, 1));
        goesBack(x, "part", () -> x.part(0));
        goesBack(x, "blockAll", x::blockAll);
        goesBack(x, "fail", () -> x.fail(0));
        goesBack(x, "goBack", () -> x.goBack(0));
        Check.type(x, "000@0+1");
        int saved = x.count(10);
        x.load();
        Check.due("saved by load", x.count(10), saved + 1);
        x.undo();
        Check.due("trips", x.count(0), 3);
    }

    private static void notUndoableCalls() {
        BusBlocks x = new BusBlocks();
        x.trip(0, 0, 1, 100, 10);
        x.append(48);
        x.firstError();
        x.clearBuffer();
        x.keep(0);
        x.keep(1);
        Check.due("saved", x.count(10), 1);
        Check.due("undo()", x.undo(), 0);
        Check.due("a snapshot outlives undo", x.goBack(1), 1);
    }

    private static void wrongInputs() {
        BusBlocks x = new BusBlocks();
        int[] none = {-1, 2};
        for (int slot : none) {
            Check.refusedBy(x, "keep(" + slot + ")", () -> x.keep(slot), "IllegalArgumentException");
            Check.refusedBy(x, "goBack(" + slot + ")", () -> x.goBack(slot), "IllegalArgumentException");
        }
        Check.refusedBy(x, "goBack(0)", () -> x.goBack(0), "IllegalStateException");
        x.keep(0);
        Check.refusedBy(x, "goBack(1)", () -> x.goBack(1), "IllegalStateException");
        Check.due("goBack(0)", x.goBack(0), 0);
    }
}
