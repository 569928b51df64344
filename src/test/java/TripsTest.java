/** Terminals, trips and settings: promises 1 to 6, 18, 19 and 23. */
public final class TripsTest {
    private static final int NONE = BusBlocks.NONE;

    public static void main(String[] args) {
        promise1();
        promise2();
        promise3();
        promise4();
        promise4WrongInputs();
        promise5();
        promise5WrongInputs();
        promise6And23();
        promise18();
        promise18Deficits();
        promise19();
        Check.finish();
    }

    private static void promise1() {
        BusBlocks x = new BusBlocks();
        for (int what = 0; what <= 10; what++) {
            Check.due("count(" + what + ") of a new object", x.count(what), what == 5 ? 1 : 0);
        }
        int[] settings = {1, 480, 1, 30};
        for (int terminal = 0; terminal < 4; terminal++) {
            Check.due("layover " + terminal, x.terminalOf(terminal, 0), 5);
            Check.due("relief " + terminal, x.terminalOf(terminal, 1), terminal < 2 ? 1 : 0);
            Check.due("setting " + terminal, x.setting(terminal), settings[terminal]);
        }
        Check.due("the buffer is empty", x.clearBuffer(), 0);
        Check.badState("slot 0 is empty", () -> x.goBack(0));
        Check.badState("slot 1 is empty", () -> x.goBack(1));
        Check.badState("nothing is saved", x::undo);
        Check.noSuch("no trip", () -> x.tripOf(0, 0));
        Check.noSuch("no block", () -> x.blockOf(0, 0));
        Check.dueShare("drivenShare()", x.drivenShare(), 1.0);
    }

    private static void promise2() {
        BusBlocks x = new BusBlocks();
        Check.due("layover(0, 60)", x.layover(0, 60), 5);
        Check.due("layover(3, 0)", x.layover(3, 0), 5);
        Check.due("layover(0, 7)", x.layover(0, 7), 60);
        Check.due("terminalOf(0, 0)", x.terminalOf(0, 0), 7);
        Check.due("terminalOf(1, 0)", x.terminalOf(1, 0), 5);
        Check.due("terminalOf(3, 0)", x.terminalOf(3, 0), 0);
        Check.due("saved", x.count(10), 3);
        Check.refusedBy(x, "layover(-1, 61)", () -> x.layover(-1, 61), "IndexOutOfBoundsException");
        Check.refusedBy(x, "layover(4, 5)", () -> x.layover(4, 5), "IndexOutOfBoundsException");
        Check.refusedBy(x, "layover(0, -1)", () -> x.layover(0, -1), "IllegalArgumentException");
        Check.refusedBy(x, "layover(3, 61)", () -> x.layover(3, 61), "IllegalArgumentException");
        x.trip(0, 0, 1, 100, 20);
        x.trip(0, 1, 0, 125, 20);
        Check.due("follow(1, 0)", x.follow(1, 0), 0);
        x.layover(1, 60);
        Check.due("what follows stays", x.tripOf(1, 5), 0);
        x.part(0);
        Check.due("the new layover counts", x.whyNot(1, 0), 4);
        x.undo();
        x.undo();
        Check.due("undone", x.terminalOf(1, 0), 5);
    }

    private static void promise3() {
        BusBlocks x = new BusBlocks();
        Check.due("relief(0)", x.relief(0), 0);
        Check.due("relief(0)", x.relief(0), 1);
        Check.due("relief(3)", x.relief(3), 1);
        Check.due("relief(1)", x.relief(1), 0);
        int[] due = {1, 0, 0, 1};
        for (int terminal = 0; terminal < 4; terminal++) {
            Check.due("terminalOf(" + terminal + ", 1)", x.terminalOf(terminal, 1), due[terminal]);
        }
        Check.refusedBy(x, "relief(-1)", () -> x.relief(-1), "IndexOutOfBoundsException");
        Check.refusedBy(x, "relief(4)", () -> x.relief(4), "IndexOutOfBoundsException");
        Check.due("undo()", x.undo(), 3);
        Check.due("undone", x.terminalOf(1, 1), 1);
    }

    private static void promise4() {
        BusBlocks x = new BusBlocks();
        Check.due("trip(3, 3, 2, 1439, 240)", x.trip(3, 3, 2, 1439, 240), 0);
        Check.due("trip(0, 0, 0, 0, 1)", x.trip(0, 0, 0, 0, 1), 1);
        Check.due("blocks", x.count(2), 2);
        Check.due("its block", x.tripOf(1, 7), 1);
        Check.due("arrival later than the day", x.tripOf(0, 4), 1679);
        Check.due("undo()", x.undo(), 1);
        Check.due("trips", x.count(0), 1);
        for (int trip = 1; trip < 20; trip++) {
            Check.due("trip " + trip, x.trip(trip % 4, 0, 1, 10 * trip, 5), trip);
        }
        Check.refusedBy(x, "a trip more", () -> x.trip(0, 0, 1, 0, 1), "IllegalStateException");
        Check.refusedBy(x, "a wrong trip more", () -> x.trip(0, 0, 1, 0, 0), "IllegalArgumentException");
        Check.due("trips", x.count(0), 20);
        Check.due("saved", x.count(10), 6);
    }

    private static void promise4WrongInputs() {
        BusBlocks x = new BusBlocks();
        int[][] wrong = {
            {-1, 0, 0, 0, 1}, {4, 0, 0, 0, 1}, {0, -1, 0, 0, 1}, {0, 4, 0, 0, 1}, {0, 0, -1, 0, 1}, {0, 0, 4, 0, 1},
            {0, 0, 0, -1, 1}, {0, 0, 0, 1440, 1}, {0, 0, 0, 0, 0}, {0, 0, 0, 0, 241}, {0, 0, 0, 0, -1}};
        for (int[] w : wrong) {
            String text = java.util.Arrays.toString(w);
            Check.refusedBy(x, "trip" + text, () -> x.trip(w[0], w[1], w[2], w[3], w[4]), "IllegalArgumentException");
            Check.refusedBy(x, "ifTrip" + text, () -> x.ifTrip(w[0], w[1], w[2], w[3], w[4]), "IllegalArgumentException");
        }
        Check.due("saved", x.count(10), 0);
    }

    private static void promise5() {
        BusBlocks x = new BusBlocks();
        for (int trip = 0; trip < 5; trip++) {
            x.trip(0, 0, 0, 100 * trip, 10);
        }
        Check.chain(x, 0, 1, 2, 3, 4);
        Check.due("shift(2, 1439)", x.shift(2, 1439), 200);
        Check.due("departure", x.tripOf(2, 3), 1439);
        Check.due("arrival", x.tripOf(2, 4), 1449);
        Check.due("those ahead stay", x.tripOf(1, 5), 0);
        Check.due("those behind stay", x.tripOf(4, 5), 3);
        Check.due("nothing behind those ahead", x.tripOf(1, 6), NONE);
        Check.due("nothing ahead of those behind", x.tripOf(3, 5), NONE);
        Check.due("nothing ahead of it", x.tripOf(2, 5), NONE);
        Check.due("nothing behind it", x.tripOf(2, 6), NONE);
        Check.due("blocks", x.count(2), 3);
        Check.due("the same departure also takes it out", x.shift(4, 400), 400);
        Check.due("blocks", x.count(2), 4);
        Check.due("undo()", x.undo(), 5);
        Check.due("undo()", x.undo(), 4);
        Check.due("blocks", x.count(2), 1);
        Check.due("departure", x.tripOf(2, 3), 200);
        Check.due("the first of a block", x.shift(0, 0), 0);
        Check.due("blocks", x.count(2), 2);
        Check.due("shift to 0", x.shift(4, 0), 400);
    }

    private static void promise5WrongInputs() {
        BusBlocks x = new BusBlocks();
        Check.noSuch("shift(0, 0)", () -> x.shift(0, 0));
        x.trip(0, 0, 0, 100, 10);
        x.trip(0, 0, 0, 100, 10);
        x.set(2, 0);
        x.fail(1);
        Check.refusedBy(x, "shift(2, -1)", () -> x.shift(2, -1), "IndexOutOfBoundsException");
        Check.refusedBy(x, "shift(-1, 0)", () -> x.shift(-1, 0), "IndexOutOfBoundsException");
        Check.refusedBy(x, "shift(1, -1)", () -> x.shift(1, -1), "IllegalArgumentException");
        Check.refusedBy(x, "shift(0, 1440)", () -> x.shift(0, 1440), "IllegalArgumentException");
        Check.refusedBy(x, "shift(1, 0)", () -> x.shift(1, 0), "IllegalStateException");
    }

    private static void promise6And23() {
        BusBlocks x = new BusBlocks();
        int[] least = {0, 60, 0, 0};
        int[] first = {1, 480, 1, 30};
        int[] most = {1, 900, 9, 240};
        for (int setting = 0; setting < 4; setting++) {
            int s = setting;
            Check.due("set the least of " + s, x.set(s, least[s]), first[s]);
            Check.due("setting(" + s + ")", x.setting(s), least[s]);
            Check.due("set the most of " + s, x.set(s, most[s]), least[s]);
            Check.due("setting(" + s + ")", x.setting(s), most[s]);
            Check.refusedBy(x, "below " + s, () -> x.set(s, least[s] - 1), "IllegalArgumentException");
            Check.refusedBy(x, "above " + s, () -> x.set(s, most[s] + 1), "IllegalArgumentException");
        }
        Check.refusedBy(x, "set(-1, -1)", () -> x.set(-1, -1), "IndexOutOfBoundsException");
        Check.refusedBy(x, "set(4, 0)", () -> x.set(4, 0), "IndexOutOfBoundsException");
        Check.refusedBy(x, "setting(-1)", () -> x.setting(-1), "IndexOutOfBoundsException");
        Check.refusedBy(x, "setting(4)", () -> x.setting(4), "IndexOutOfBoundsException");
        Check.due("saved", x.count(10), 6);
        x.undo();
        Check.due("undone", x.setting(3), 0);
        x.trip(0, 0, 0, 0, 10);
        x.trip(1, 0, 0, 30, 10);
        Check.chain(x, 0, 1);
        x.set(0, 0);
        Check.due("what follows stays", x.tripOf(1, 5), 0);
    }

    private static void promise18() {
        BusBlocks x = new BusBlocks();
        x.trip(0, 0, 1, 100, 10);
        x.trip(1, 0, 1, 100, 10);
        x.trip(2, 0, 0, 50, 10);
        x.trip(2, 2, 0, 50, 10);
        x.set(2, 0);
        x.fail(1);
        int[][] due = {{5, 1, 2, 2, 1}, {5, 1, 0, 1, 0}, {5, 0, 1, 0, 1}, {5, 0, 0, 0, 0}};
        for (int terminal = 0; terminal < 4; terminal++) {
            for (int what = 0; what <= 4; what++) {
                Check.due("terminalOf(" + terminal + ", " + what + ")", x.terminalOf(terminal, what), due[terminal][what]);
            }
        }
        Check.noSuch("terminalOf(-1, 5)", () -> x.terminalOf(-1, 5));
        Check.noSuch("terminalOf(4, 0)", () -> x.terminalOf(4, 0));
        Check.badArgument("terminalOf(0, -1)", () -> x.terminalOf(0, -1));
        Check.badArgument("terminalOf(0, 5)", () -> x.terminalOf(0, 5));
    }

    private static void promise18Deficits() {
        BusBlocks x = new BusBlocks();
        x.trip(0, 1, 0, 100, 10);
        x.trip(1, 0, 1, 115, 10);
        Check.due("ready just then, terminal 0", x.terminalOf(0, 4), 0);
        Check.due("the first needs one at 1", x.terminalOf(1, 4), 1);
        x.set(0, 0);
        Check.due("of its route none is there", x.terminalOf(0, 4), 1);
        x.undo();
        x.shift(1, 114);
        Check.due("a minute too early", x.terminalOf(0, 4), 1);
        x.trip(2, 0, 0, 114, 1);
        Check.due("two at once", x.terminalOf(0, 4), 2);
        x.trip(2, 0, 0, 120, 1);
        Check.due("the round trip is back at 120, and the first bus came", x.terminalOf(0, 4), 2);
        x.set(0, 0);
        Check.due("routes 1 and 2 one each", x.terminalOf(0, 4), 2);
        x.layover(0, 6);
        Check.due("route 2 needs two", x.terminalOf(0, 4), 3);
        BusBlocks y = new BusBlocks();
        y.trip(0, 0, 1, 100, 10);
        y.trip(0, 1, 0, 115, 10);
        y.trip(0, 1, 0, 115, 10);
        Check.due("one is ready for two", y.terminalOf(1, 4), 1);
        y.trip(0, 1, 0, 300, 10);
        y.trip(0, 0, 1, 200, 10);
        Check.due("later ones do not need more", y.terminalOf(1, 4), 1);
        Check.due("two at 0 came back", y.terminalOf(0, 4), 1);
    }

    private static void promise19() {
        BusBlocks x = new BusBlocks();
        x.trip(3, 2, 1, 700, 33);
        x.trip(1, 1, 0, 900, 20);
        x.trip(2, 0, 3, 10, 5);
        Check.chain(x, 0, 1);
        int[][] due = {
            {3, 2, 1, 700, 733, NONE, 1, 0, 0}, {1, 1, 0, 900, 920, 0, NONE, 0, 0}, {2, 0, 3, 10, 15, NONE, NONE, 1, 0}};
        for (int trip = 0; trip < 3; trip++) {
            for (int what = 0; what <= 8; what++) {
                Check.due("tripOf(" + trip + ", " + what + ")", x.tripOf(trip, what), due[trip][what]);
            }
        }
        x.set(2, 0);
        x.fail(0);
        Check.due("lost: follows none", x.tripOf(1, 5), NONE);
        Check.due("lost: none follows", x.tripOf(0, 6), NONE);
        Check.due("lost: in no block", x.tripOf(0, 7), NONE);
        Check.due("lost", x.tripOf(1, 8), 1);
        Check.due("lost: its departure stays", x.tripOf(1, 3), 900);
        Check.due("the blocks move up", x.tripOf(2, 7), 0);
        Check.noSuch("tripOf(-1, 9)", () -> x.tripOf(-1, 9));
        Check.noSuch("tripOf(3, 0)", () -> x.tripOf(3, 0));
        Check.badArgument("tripOf(0, -1)", () -> x.tripOf(0, -1));
        Check.badArgument("tripOf(0, 9)", () -> x.tripOf(0, 9));
    }
}
