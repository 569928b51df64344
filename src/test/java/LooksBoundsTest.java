/** The boundaries that promises 18 to 29 name, a test for each sentence; none of these calls changes anything. */
public final class LooksBoundsTest {
    private static final int NONE = BusBlocks.NONE;
    private static final int NO_SUCH = 9;
    private static final int LAST_TRIP = Twins.BUSY_TRIPS - 1;
    private static final int LAST_BLOCK = Twins.BUSY_BLOCKS - 1;

    public static void main(String[] args) {
        none();
        promise18();
        promise19();
        promise20();
        promise21();
        promise22();
        promise23();
        promise24();
        promise25();
        promise26();
        promise27();
        promise28();
        promise29();
        Check.finish();
    }

    /** "NONE = -1: There is nothing to return." */
    private static void none() {
        Check.due("NONE", NONE, -1);
    }

    // ---- promise 18: terminalOf

    private static void promise18() {
        promise18Terminal();
        promise18What();
        promise18WhichException();
        promise18RunTrips();
        promise18DeficitOfAllRoutes();
    }

    /** "terminal: 0 to 3" */
    private static void promise18Terminal() {
        for (int what = 0; what <= 4; what++) {
            int w = what;
            String text = "promise 18: terminal, with " + what;
            Twins.range(text, Twins::busy, 0, 3, (x, v) -> x.terminalOf(v, w), Twins.INDEX);
        }
    }

    /** "IllegalArgumentException if what is not 0 to 4" */
    private static void promise18What() {
        int[][] due = {{4, 1, 2, 1, 1}, {5, 1, 1, 2, 0}, {5, 1, 0, 0, 0}, {7, 0, 1, 1, 1}};
        for (int place = 0; place < 20; place++) {
            int terminal = place / 5;
            int what = place % 5;
            String text = "promise 18: terminalOf(" + terminal + ", " + what + ")";
            Twins.looks(text, Twins::busy, x -> x.terminalOf(terminal, what), due[terminal][what]);
        }
        Twins.range("promise 18: what", Twins::busy, 0, 4, (x, v) -> x.terminalOf(3, v), Twins.ARGUMENT);
    }

    private static void promise18WhichException() {
        Twins.refuses("promise 18: terminalOf(4, 5)", Twins::busy, x -> x.terminalOf(4, 5), Twins.INDEX);
        Twins.refuses("promise 18: terminalOf(-1, -1)", Twins::busy, x -> x.terminalOf(-1, -1), Twins.INDEX);
    }

    /** "2: trips that are run from it; 3: those to it" */
    private static void promise18RunTrips() {
        BusBlocks x = new BusBlocks();
        x.trip(0, 2, 3, 100, 10);
        Check.due("promise 18: run from it", x.terminalOf(2, 2), 1);
        Check.due("promise 18: run to it", x.terminalOf(3, 3), 1);
        Check.due("promise 18: not from where it goes to", x.terminalOf(3, 2), 0);
        Check.due("promise 18: not to where it goes from", x.terminalOf(2, 3), 0);
        x.fail(0);
        Check.due("promise 18: a lost one from it", x.terminalOf(2, 2), 0);
        Check.due("promise 18: a lost one to it", x.terminalOf(3, 3), 0);
    }

    /** "(with setting 0 as 0 the sum of its deficits of all routes)" */
    private static void promise18DeficitOfAllRoutes() {
        BusBlocks x = new BusBlocks();
        for (int route = 0; route <= 3; route++) {
            x.trip(route, 3, 3, 100 * route, 10);
        }
        Check.due("promise 18: shared", x.terminalOf(3, 4), 1);
        x.set(0, 0);
        Check.due("promise 18: a bus a route", x.terminalOf(3, 4), 4);
        Check.due("promise 18: at the others none", x.terminalOf(2, 4), 0);
    }

    // ---- promise 19: tripOf

    private static void promise19() {
        promise19Trip();
        promise19What();
        promise19WhichException();
        promise19None();
    }

    /** "IndexOutOfBoundsException if there is no such trip" */
    private static void promise19Trip() {
        for (int what = 0; what <= 8; what++) {
            int w = what;
            String text = "promise 19: trip, with " + what;
            Twins.range(text, Twins::busy, 0, LAST_TRIP, (x, v) -> x.tripOf(v, w), Twins.INDEX);
            Twins.range(text + ", of 20", Twins::twentyTrips, 0, 19, (x, v) -> x.tripOf(v, w), Twins.INDEX);
            Twins.refuses(text + ", without trips", x -> { }, x -> x.tripOf(0, w), Twins.INDEX);
        }
        BusBlocks x = new BusBlocks();
        x.trip(0, 0, 0, 0, 1);
        x.undo();
        Check.noSuch("promise 19: an undone one", () -> x.tripOf(0, 0));
    }

    /** "IllegalArgumentException if what is not 0 to 8" */
    private static void promise19What() {
        int[][] due = {
            {0, 0, 1, 480, 510, NONE, 1, 0, 0}, {0, 1, 0, 515, 545, 0, 2, 0, 0}, {1, 0, 1, 550, 590, 1, NONE, 0, 0},
            {2, 2, 3, 100, 120, NONE, NONE, NONE, 1}, {3, 3, 3, 1439, 1679, NONE, NONE, 1, 0}};
        for (int place = 0; place < 45; place++) {
            int trip = place / 9;
            int what = place % 9;
            String text = "promise 19: tripOf(" + trip + ", " + what + ")";
            Twins.looks(text, Twins::busy, x -> x.tripOf(trip, what), due[trip][what]);
        }
        for (int trip : new int[] {0, Twins.BUSY_LOST, LAST_TRIP}) {
            Twins.range("promise 19: what", Twins::busy, 0, 8, (x, v) -> x.tripOf(trip, v), Twins.ARGUMENT);
        }
    }

    private static void promise19WhichException() {
        Twins.refuses("promise 19: tripOf(9, 9)", Twins::busy, x -> x.tripOf(NO_SUCH, 9), Twins.INDEX);
        Twins.refuses("promise 19: tripOf(-1, -1)", Twins::busy, x -> x.tripOf(-1, -1), Twins.INDEX);
    }

    /** "NONE without one; 7: its block, NONE if it is lost" */
    private static void promise19None() {
        BusBlocks x = new BusBlocks();
        x.trip(0, 0, 0, 100, 10);
        Check.due("promise 19: follows none", x.tripOf(0, 5), NONE);
        Check.due("promise 19: none follows", x.tripOf(0, 6), NONE);
        Check.due("promise 19: alone in block 0", x.tripOf(0, 7), 0);
        x.trip(0, 0, 0, 200, 10);
        Check.chain(x, 0, 1);
        Check.due("promise 19: follows trip 0", x.tripOf(1, 5), 0);
        Check.due("promise 19: still none", x.tripOf(0, 5), NONE);
        x.fail(1);
        Check.due("promise 19: lost, in no block", x.tripOf(1, 7), NONE);
        Check.due("promise 19: lost, follows none", x.tripOf(1, 5), NONE);
        Check.due("promise 19: a lost one does not follow", x.tripOf(0, 6), NONE);
    }

    // ---- promise 20: blockOf

    private static void promise20() {
        promise20Block();
        promise20What();
        promise20WhichException();
        promise20OneTrip();
        promise20TwentyTrips();
        promise20RouteChanges();
        promise20CannotBeDone();
    }

    /** "IndexOutOfBoundsException if there is no such block" */
    private static void promise20Block() {
        for (int what = 0; what <= 6; what++) {
            int w = what;
            String text = "promise 20: block, with " + what;
            Twins.range(text, Twins::busy, 0, LAST_BLOCK, (x, v) -> x.blockOf(v, w), Twins.INDEX);
            Twins.range(text + ", of 20", Twins::twentyTrips, 0, 19, (x, v) -> x.blockOf(v, w), Twins.INDEX);
            Twins.refuses(text + ", without trips", x -> { }, x -> x.blockOf(0, w), Twins.INDEX);
            Twins.refuses(text + ", all lost", x -> {
                x.trip(0, 0, 0, 0, 1);
                x.fail(0);
            }, x -> x.blockOf(0, w), Twins.INDEX);
        }
    }

    /** "IllegalArgumentException if what is not 0 to 6" */
    private static void promise20What() {
        int[][] due = {{0, 3, 110, 10, 1, 1, 1}, {4, 1, 240, 0, 0, 1, 1}};
        for (int place = 0; place < 14; place++) {
            int block = place / 7;
            int what = place % 7;
            String text = "promise 20: blockOf(" + block + ", " + what + ")";
            Twins.looks(text, Twins::busy, x -> x.blockOf(block, what), due[block][what]);
        }
        Twins.range("promise 20: what", Twins::busy, 0, 6, (x, v) -> x.blockOf(0, v), Twins.ARGUMENT);
        Twins.range("promise 20: what", Twins::busy, 0, 6, (x, v) -> x.blockOf(LAST_BLOCK, v), Twins.ARGUMENT);
    }

    private static void promise20WhichException() {
        Twins.refuses("promise 20: blockOf(2, 7)", Twins::busy, x -> x.blockOf(2, 7), Twins.INDEX);
        Twins.refuses("promise 20: blockOf(-1, -1)", Twins::busy, x -> x.blockOf(-1, -1), Twins.INDEX);
    }

    private static void properties(BusBlocks x, String text, int... due) {
        for (int what = 0; what < due.length; what++) {
            Check.due("promise 20: " + text + ", blockOf(0, " + what + ")", x.blockOf(0, what), due[what]);
        }
    }

    private static void promise20OneTrip() {
        BusBlocks x = new BusBlocks();
        x.trip(3, 2, 2, 1439, 240);
        properties(x, "the longest trip", 0, 1, 240, 0, 0, 1, 1);
        x.undo();
        x.trip(3, 2, 2, 0, 1);
        properties(x, "the shortest trip", 0, 1, 1, 0, 0, 1, 1);
    }

    private static void promise20TwentyTrips() {
        BusBlocks x = Twins.after(Twins::twentyTrips);
        x.blockAll();
        properties(x, "all in one block", 0, 20, 1150, 950, 19, 3, 3);
        x.layover(0, 0);
        BusBlocks tight = new BusBlocks();
        tight.layover(0, 0);
        for (int trip = 0; trip < 20; trip++) {
            tight.trip(1, 0, 0, 70 * trip, 70);
        }
        tight.blockAll();
        tight.set(1, 900);
        properties(tight, "without a minute between", 0, 20, 1400, 0, 0, 2, 2);
    }

    /** "4: how often its trips change the route" */
    private static void promise20RouteChanges() {
        int[][] routes = {{0, 0, 0, 0}, {0, 1, 1, 1}, {1, 1, 1, 0}, {0, 1, 1, 0}, {0, 1, 2, 0}, {0, 1, 0, 1}, {3, 3, 2, 2}};
        int[] due = {0, 1, 1, 2, 3, 3, 1};
        for (int place = 0; place < due.length; place++) {
            BusBlocks x = new BusBlocks();
            for (int trip = 0; trip < 4; trip++) {
                x.trip(routes[place][trip], 0, 0, 100 * trip, 10);
            }
            Check.chain(x, 0, 1, 2, 3);
            Check.due("promise 20: changes of row " + place, x.blockOf(0, 4), due[place]);
        }
    }

    /** "NONE for 5 and 6 if it cannot be done" */
    private static void promise20CannotBeDone() {
        BusBlocks x = new BusBlocks();
        x.trip(0, 0, 2, 0, 30);
        x.trip(0, 2, 0, 40, 30);
        Check.chain(x, 0, 1);
        x.set(1, 70);
        properties(x, "just in the hours", 0, 2, 70, 10, 0, 1, 1);
        x.set(1, 69);
        properties(x, "a minute less, no relief between", 0, 2, 70, 10, 0, NONE, NONE);
        x.relief(2);
        properties(x, "a minute less, with relief between", 0, 2, 70, 10, 0, 2, 2);
    }

    // ---- promise 21: duty

    private static void promise21() {
        promise21Block();
        promise21Rank();
        promise21What();
        promise21WhichException();
        promise21NotSoMany();
        promise21CannotBeCut();
        promise21AsLongAsTheyCan();
    }

    /** "IndexOutOfBoundsException if there is no such block" */
    private static void promise21Block() {
        Twins.range("promise 21: block", Twins::busy, 0, LAST_BLOCK, (x, v) -> x.duty(v, 0, 0), Twins.INDEX);
        Twins.range("promise 21: of 20", Twins::twentyTrips, 0, 19, (x, v) -> x.duty(v, 0, 2), Twins.INDEX);
        Twins.refuses("promise 21: without trips", x -> { }, x -> x.duty(0, 0, 0), Twins.INDEX);
    }

    /** "rank: 0 for the first duty, and so on"; "IllegalArgumentException if rank is below 0" */
    private static void promise21Rank() {
        for (int rank : new int[] {-1, -2, Integer.MIN_VALUE}) {
            Twins.refuses("promise 21: rank " + rank, Twins::busy, x -> x.duty(0, rank, 0), Twins.ARGUMENT);
        }
        Twins.looks("promise 21: rank 0", Twins::busy, x -> x.duty(0, 0, 0), 0);
        for (int rank : new int[] {1, 19, 20, 21, Integer.MAX_VALUE}) {
            Twins.looks("promise 21: rank " + rank, Twins::busy, x -> x.duty(0, rank, 0), NONE);
        }
    }

    /** "IllegalArgumentException if .. what is not 0 to 2" */
    private static void promise21What() {
        int[][] due = {{0, 2, 110}, {4, 4, 240}};
        for (int place = 0; place < 6; place++) {
            int block = place / 3;
            int what = place % 3;
            String text = "promise 21: duty(" + block + ", 0, " + what + ")";
            Twins.looks(text, Twins::busy, x -> x.duty(block, 0, what), due[block][what]);
        }
        Twins.range("promise 21: what", Twins::busy, 0, 2, (x, v) -> x.duty(0, 0, v), Twins.ARGUMENT);
        Twins.range("promise 21: what of no duty", Twins::busy, 0, 2, (x, v) -> x.duty(1, 7, v), Twins.ARGUMENT);
    }

    private static void promise21WhichException() {
        Twins.refuses("promise 21: duty(2, -1, 3)", Twins::busy, x -> x.duty(2, -1, 3), Twins.INDEX);
        Twins.refuses("promise 21: duty(-1, 0, 0)", Twins::busy, x -> x.duty(-1, 0, 0), Twins.INDEX);
        Twins.refuses("promise 21: duty(-1, -1, 0)", Twins::busy, x -> x.duty(-1, -1, 0), Twins.INDEX);
        Twins.refuses("promise 21: duty(0, -1, 3)", Twins::busy, x -> x.duty(0, -1, 3), Twins.ARGUMENT);
    }

    /** Four trips of 20 minutes, each half an hour, that follow one another, to the terminals 0, 2, 1 and 2. */
    private static void fourTrips(BusBlocks x) {
        int[] terminals = {1, 0, 2, 1, 2};
        for (int trip = 0; trip < 4; trip++) {
            x.trip(0, terminals[trip], terminals[trip + 1], 100 + 30 * trip, 20);
        }
        Check.chain(x, 0, 1, 2, 3);
    }

    private static Twins.Past fourTripsWith(int hours) {
        return x -> {
            fourTrips(x);
            x.set(1, hours);
        };
    }

    private static void duties(int hours, int[]... due) {
        for (int rank = 0; rank < 5; rank++) {
            for (int what = 0; what <= 2; what++) {
                int r = rank;
                int w = what;
                String text = "promise 21: with hours of " + hours + ", duty(0, " + rank + ", " + what + ")";
                Twins.looks(text, fourTripsWith(hours), x -> x.duty(0, r, w), rank < due.length ? due[rank][what] : NONE);
            }
        }
    }

    /** "NONE if there are not so many" */
    private static void promise21NotSoMany() {
        duties(110, new int[] {0, 3, 110});
        duties(109, new int[] {0, 2, 80}, new int[] {3, 3, 20});
        duties(80, new int[] {0, 2, 80}, new int[] {3, 3, 20});
        duties(79, new int[] {0, 0, 20}, new int[] {1, 2, 50}, new int[] {3, 3, 20});
        duties(60, new int[] {0, 0, 20}, new int[] {1, 2, 50}, new int[] {3, 3, 20});
    }

    /** "or the block cannot be cut into duties" (though a first duty could) */
    private static void promise21CannotBeCut() {
        for (int what = 0; what <= 2; what++) {
            int w = what;
            Twins.looks("promise 21: the last trip is too long", x -> {
                x.trip(0, 0, 0, 0, 30);
                x.trip(0, 0, 0, 40, 61);
                Check.chain(x, 0, 1);
                x.set(1, 60);
            }, x -> x.duty(0, 0, w), NONE);
            Twins.looks("promise 21: the last two cannot be cut", x -> {
                x.trip(0, 0, 0, 0, 30);
                x.trip(0, 0, 3, 40, 30);
                x.trip(0, 3, 0, 80, 30);
                Check.chain(x, 0, 1, 2);
                x.set(1, 69);
            }, x -> x.duty(0, 0, w), NONE);
        }
    }

    /** "as duties go on as long as they can from the first trip on" (not as long as they can from the last one back) */
    private static void promise21AsLongAsTheyCan() {
        BusBlocks x = new BusBlocks();
        for (int trip = 0; trip < 5; trip++) {
            x.trip(0, 0, 0, 30 * trip, 20);
        }
        Check.chain(x, 0, 1, 2, 3, 4);
        x.set(1, 80);
        int[] due = {0, 2, 80, 3, 4, 50};
        for (int place = 0; place < 6; place++) {
            Check.due("promise 21: the long one first", x.duty(0, place / 3, place % 3), due[place]);
        }
        x.relief(0);
        Check.due("promise 21: no cut", x.duty(0, 0, 0), NONE);
        x.set(1, 140);
        Check.due("promise 21: to the block's end, without relief", x.duty(0, 0, 1), 4);
    }

    // ---- promise 22: count

    private static void promise22() {
        promise22What();
        promise22UnderWay();
        promise22OneCannotBeCut();
        promise22SavedStates();
        promise22Buses();
    }

    /** "IllegalArgumentException if what is not 0 to 10" */
    private static void promise22What() {
        int[] due = {5, 4, 2, 2, 2, 1, 1, 1, 1, 2, 3};
        for (int what = 0; what <= 10; what++) {
            int w = what;
            Twins.looks("promise 22: count(" + what + ")", Twins::busy, x -> x.count(w), due[what]);
        }
        Twins.range("promise 22: what", Twins::busy, 0, 10, BusBlocks::count, Twins.ARGUMENT);
        Twins.range("promise 22: what of a new object", x -> { }, 0, 10, BusBlocks::count, Twins.ARGUMENT);
    }

    /** "8: the most trips that are under way at one time (from the departure on, ahead of the arrival)" */
    private static void promise22UnderWay() {
        BusBlocks x = new BusBlocks();
        Check.due("promise 22: no trip", x.count(8), 0);
        x.trip(0, 0, 0, 100, 1);
        Check.due("promise 22: for a minute", x.count(8), 1);
        x.trip(1, 2, 3, 101, 10);
        Check.due("promise 22: at its arrival another one departs", x.count(8), 1);
        x.shift(1, 100);
        Check.due("promise 22: both depart", x.count(8), 2);
        x.shift(1, 91);
        Check.due("promise 22: one departs in the other's last minute", x.count(8), 2);
        x.shift(1, 90);
        Check.due("promise 22: one departs at the other's arrival", x.count(8), 1);
        x.shift(1, 100);
        x.fail(1);
        Check.due("promise 22: a lost one is not under way", x.count(8), 1);
        BusBlocks late = new BusBlocks();
        late.trip(0, 0, 0, 1200, 240);
        late.trip(0, 0, 0, 1439, 240);
        Check.due("promise 22: in the last minute", late.count(8), 2);
        late.shift(0, 1199);
        Check.due("promise 22: not in the last minute", late.count(8), 1);
        BusBlocks full = new BusBlocks();
        for (int trip = 0; trip < 20; trip++) {
            full.trip(0, 0, 0, 700 + trip, 20);
        }
        Check.due("promise 22: all twenty, for one minute", full.count(8), 20);
        full.shift(0, 699);
        Check.due("promise 22: nineteen", full.count(8), 19);
    }

    /** "9: the fewest duties of all blocks together, NONE if one cannot be cut" */
    private static void promise22OneCannotBeCut() {
        for (int longest = 0; longest <= 2; longest++) {
            BusBlocks x = new BusBlocks();
            for (int trip = 0; trip <= 2; trip++) {
                x.trip(0, 0, 0, 0, trip == longest ? 61 : 60);
            }
            x.set(1, 61);
            Check.due("promise 22: all can be cut", x.count(9), 3);
            x.set(1, 60);
            Check.due("promise 22: but for block " + longest, x.count(9), NONE);
            x.fail(longest);
            Check.due("promise 22: its trip is lost", x.count(9), 2);
        }
        Check.due("promise 22: no block", new BusBlocks().count(9), 0);
    }

    /** "10: saved states" */
    private static void promise22SavedStates() {
        BusBlocks x = new BusBlocks();
        for (int saved = 0; saved <= 8; saved++) {
            Check.due("promise 22: saved states", x.count(10), Math.min(6, saved));
            x.blockAll();
        }
    }

    /** "3: the fewest buses, told by blocking all trips; 4: the same, told by deficits" */
    private static void promise22Buses() {
        for (int departure : new int[] {124, 125}) {
            for (int share = 0; share <= 1; share++) {
                for (int route = 0; route <= 1; route++) {
                    int s = share;
                    int r = route;
                    int due = departure == 125 && (share == 1 || route == 0) ? 1 : 2;
                    Twins.Past past = x -> {
                        x.trip(0, 0, 1, 100, 20);
                        x.trip(r, 1, 0, departure, 20);
                        x.set(0, s);
                    };
                    Twins.looks("promise 22: by blocking", past, x -> x.count(3), due);
                    Twins.looks("promise 22: by deficits", past, x -> x.count(4), due);
                }
            }
        }
        BusBlocks full = Twins.after(Twins::twentyTrips);
        Check.due("promise 22: twenty trips, one bus", full.count(3), 1);
        Check.due("promise 22: twenty trips, one bus, by deficits", full.count(4), 1);
        full.set(0, 0);
        Check.due("promise 22: twenty trips of four routes", full.count(3), 4);
        Check.due("promise 22: twenty trips of four routes, by deficits", full.count(4), 4);
        Check.due("promise 22: they stay apart", full.count(2), 20);
    }

    // ---- promise 23: setting

    private static void promise23() {
        promise23Setting();
        promise23Value();
    }

    /** "setting: 0 to 3" */
    private static void promise23Setting() {
        Twins.range("promise 23: setting", Twins::busy, 0, 3, BusBlocks::setting, Twins.INDEX);
    }

    /** "Returns its value." */
    private static void promise23Value() {
        int[] first = {1, 480, 1, 30};
        int[] busy = {1, 500, 2, 30};
        for (int setting = 0; setting <= 3; setting++) {
            int s = setting;
            Twins.looks("promise 23: at first", x -> { }, x -> x.setting(s), first[setting]);
            Twins.looks("promise 23: behind set()", Twins::busy, x -> x.setting(s), busy[setting]);
        }
    }

    // ---- promise 24: whyNot

    private static void promise24() {
        promise24Trips();
        promise24ChangesNothing();
    }

    /** "IndexOutOfBoundsException if there is no such trip" */
    private static void promise24Trips() {
        Twins.range("promise 24: trip", Twins::busy, 0, LAST_TRIP, (x, v) -> x.whyNot(v, 0), Twins.INDEX);
        Twins.range("promise 24: after", Twins::busy, 0, LAST_TRIP, (x, v) -> x.whyNot(0, v), Twins.INDEX);
        Twins.range("promise 24: after of 20", Twins::twentyTrips, 0, 19, (x, v) -> x.whyNot(19, v), Twins.INDEX);
        Twins.refuses("promise 24: without trips", x -> { }, x -> x.whyNot(0, 0), Twins.INDEX);
        Twins.refuses("promise 24: a lost one", Twins::busy, x -> x.whyNot(Twins.BUSY_LOST, NO_SUCH), Twins.INDEX);
    }

    /** "what would be; nothing is changed" (nothing follows, is refused, or is saved) */
    private static void promise24ChangesNothing() {
        int[][] due = {{2, 2, 3, 1, 3}, {2, 2, 2, 1, 2}, {2, 2, 2, 1, 2}, {1, 1, 1, 1, 1}, {2, 2, 3, 1, 4}};
        for (int place = 0; place < 25; place++) {
            int trip = place / 5;
            int after = place % 5;
            String text = "promise 24: whyNot(" + trip + ", " + after + ")";
            Twins.looks(text, Twins::busy, x -> x.whyNot(trip, after), due[trip][after]);
        }
        Twins.looks("promise 24: it can", Twins::twentyTrips, x -> x.whyNot(1, 0), 0);
    }

    // ---- promise 25: ifTrip

    private static void promise25() {
        promise25Arguments();
        promise25AlsoWithTwenty();
        promise25ByDeficits();
    }

    /** "route: 0 to 3", "from: 0 to 3", "to: 0 to 3", "departure: 0 to 1439", "length: 1 to 240" */
    private static void promise25Arguments() {
        for (Twins.Past past : new Twins.Past[] {x -> { }, Twins::busy, Twins::twentyTrips}) {
            Twins.range("promise 25: route", past, 0, 3, (x, v) -> x.ifTrip(v, 0, 0, 0, 1), Twins.ARGUMENT);
            Twins.range("promise 25: from", past, 0, 3, (x, v) -> x.ifTrip(0, v, 0, 0, 1), Twins.ARGUMENT);
            Twins.range("promise 25: to", past, 0, 3, (x, v) -> x.ifTrip(0, 0, v, 0, 1), Twins.ARGUMENT);
            Twins.range("promise 25: departure", past, 0, 1439, (x, v) -> x.ifTrip(0, 0, 0, v, 1), Twins.ARGUMENT);
            Twins.range("promise 25: length", past, 1, 240, (x, v) -> x.ifTrip(0, 0, 0, 0, v), Twins.ARGUMENT);
        }
    }

    /** "with one trip more (also if there are 20)" */
    private static void promise25AlsoWithTwenty() {
        Twins.looks("promise 25: without trips", x -> { }, x -> x.ifTrip(3, 3, 3, 1439, 240), 1);
        Twins.Past full = x -> {
            for (int trip = 0; trip < 20; trip++) {
                x.trip(0, 0, 1, 600, 10);
            }
        };
        Twins.looks("promise 25: the 21st needs one", full, x -> x.ifTrip(0, 0, 1, 600, 10), 21);
        Twins.looks("promise 25: the 21st follows", full, x -> x.ifTrip(0, 1, 0, 615, 10), 20);
        Twins.looks("promise 25: the 21st is too early", full, x -> x.ifTrip(0, 1, 0, 614, 10), 21);
        Twins.looks("promise 25: the 21st comes ahead", full, x -> x.ifTrip(0, 1, 0, 594, 1), 20);
        Twins.looks("promise 25: the 21st comes too late", full, x -> x.ifTrip(0, 1, 0, 595, 1), 21);
    }

    /** "Returns the fewest buses, by deficits." */
    private static void promise25ByDeficits() {
        Twins.Past past = x -> {
            x.trip(0, 0, 1, 100, 20);
            x.trip(1, 0, 1, 100, 20);
            x.trip(0, 0, 1, 100, 20);
            x.set(2, 0);
            x.fail(2);
            x.set(0, 0);
        };
        Twins.looks("promise 25: of the same route", past, x -> x.ifTrip(1, 1, 0, 125, 20), 2);
        Twins.looks("promise 25: of another route", past, x -> x.ifTrip(2, 1, 0, 125, 20), 3);
        BusBlocks x = Twins.after(past);
        x.set(0, 1);
        Check.due("promise 25: shared", x.ifTrip(2, 1, 0, 125, 20), 2);
        x.layover(1, 6);
        Check.due("promise 25: the layover counts", x.ifTrip(2, 1, 0, 125, 20), 3);
        x.layover(0, 60);
        Check.due("promise 25: at the 21st's goal, too", x.ifTrip(2, 1, 0, 39, 1), 2);
        Check.due("promise 25: a minute later", x.ifTrip(2, 1, 0, 40, 1), 3);
    }

    // ---- promise 26: bestTime

    private static void promise26() {
        promise26Trip();
        promise26By();
        promise26Lost();
        promise26WhichException();
        promise26EarlierOrLater();
        promise26FromZeroToTheLastMinute();
        promise26TheNearest();
        promise26TheEarlierOne();
        promise26ByDeficits();
    }

    /** "IndexOutOfBoundsException if there is no such trip" */
    private static void promise26Trip() {
        for (int by : new int[] {0, 120}) {
            Twins.range("promise 26: trip", Twins::twentyTrips, 0, 19, (x, v) -> x.bestTime(v, by), Twins.INDEX);
            Twins.refuses("promise 26: without trips", x -> { }, x -> x.bestTime(0, by), Twins.INDEX);
            Twins.refuses("promise 26: trip 5", Twins::busy, x -> x.bestTime(LAST_TRIP + 1, by), Twins.INDEX);
        }
    }

    /** "by: 0 to 120" */
    private static void promise26By() {
        Twins.range("promise 26: by", Twins::busy, 0, 120, (x, v) -> x.bestTime(0, v), Twins.ARGUMENT);
        Twins.looks("promise 26: by 0", Twins::busy, x -> x.bestTime(1, 0), 515);
        Twins.looks("promise 26: by 120", Twins::busy, x -> x.bestTime(1, 120), 515);
    }

    /** "IllegalStateException if the trip is lost" */
    private static void promise26Lost() {
        Twins.refuses("promise 26: lost, by 0", Twins::busy, x -> x.bestTime(Twins.BUSY_LOST, 0), Twins.STATE);
        Twins.refuses("promise 26: lost, by 120", Twins::busy, x -> x.bestTime(Twins.BUSY_LOST, 120), Twins.STATE);
    }

    private static void promise26WhichException() {
        Twins.refuses("promise 26: no trip, by -1", Twins::busy, x -> x.bestTime(NO_SUCH, -1), Twins.INDEX);
        Twins.refuses("promise 26: no trip, by 121", Twins::busy, x -> x.bestTime(-1, 121), Twins.INDEX);
        Twins.refuses("promise 26: lost, by 121", Twins::busy, x -> x.bestTime(Twins.BUSY_LOST, 121), Twins.ARGUMENT);
        Twins.refuses("promise 26: lost, by -1", Twins::busy, x -> x.bestTime(Twins.BUSY_LOST, -1), Twins.ARGUMENT);
    }

    /** Trip 1 goes back from where trip 0 arrives at 610, or (ahead of it) is back at 600 with layovers of 0. */
    private static Twins.Past outAndBack(int departure, int layover) {
        return x -> {
            x.trip(0, 0, 1, 600, 10);
            x.trip(0, 1, 0, departure, 10);
            x.layover(0, layover);
            x.layover(1, layover);
        };
    }

    /** Trip 1 goes back best at 900, behind trip 0, or at 530, ahead of it. */
    private static Twins.Past farApart(int departure) {
        return x -> {
            x.layover(0, 60);
            x.layover(1, 60);
            x.trip(0, 0, 1, 600, 240);
            x.trip(0, 1, 0, departure, 10);
        };
    }

    /** "how many minutes earlier or later it may go" */
    private static void promise26EarlierOrLater() {
        for (int by : new int[] {1, 2, 59, 60, 119, 120}) {
            Twins.looks("promise 26: " + by + " later", farApart(900 - by), x -> x.bestTime(1, by), 900);
            Twins.looks("promise 26: not " + (by + 1) + " later", farApart(899 - by), x -> x.bestTime(1, by), 899 - by);
            Twins.looks("promise 26: " + by + " earlier", farApart(530 + by), x -> x.bestTime(1, by), 530);
            Twins.looks("promise 26: not " + (by + 1) + " earlier", farApart(531 + by), x -> x.bestTime(1, by), 531 + by);
        }
        Twins.looks("promise 26: not at all", farApart(899), x -> x.bestTime(1, 0), 899);
    }

    /** "but from 0 to 1439" */
    private static void promise26FromZeroToTheLastMinute() {
        Twins.Past early = x -> {
            x.layover(0, 0);
            x.layover(1, 0);
            x.trip(0, 0, 1, 10, 240);
            x.trip(0, 1, 0, 9, 10);
        };
        Twins.looks("promise 26: at 0", early, x -> x.bestTime(1, 9), 0);
        Twins.looks("promise 26: not by 8", early, x -> x.bestTime(1, 8), 9);
        Twins.looks("promise 26: at 0, by 120", early, x -> x.bestTime(1, 120), 0);
        Twins.looks("promise 26: below 0 there is none", x -> {
            early.happensTo(x);
            x.shift(0, 9);
        }, x -> x.bestTime(1, 120), 9);
        Twins.Past late = x -> {
            x.layover(0, 60);
            x.layover(1, 0);
            x.trip(0, 0, 1, 1199, 240);
            x.trip(0, 1, 0, 1436, 240);
        };
        Twins.looks("promise 26: at 1439", late, x -> x.bestTime(1, 3), 1439);
        Twins.looks("promise 26: not by 2", late, x -> x.bestTime(1, 2), 1436);
        Twins.looks("promise 26: at 1439, by 120", late, x -> x.bestTime(1, 120), 1439);
        Twins.looks("promise 26: above 1439 there is none", x -> {
            late.happensTo(x);
            x.shift(0, 1200);
        }, x -> x.bestTime(1, 120), 1436);
    }

    /** "of several the one nearest to its own" */
    private static void promise26TheNearest() {
        Twins.looks("promise 26: its own", outAndBack(610, 0), x -> x.bestTime(1, 120), 610);
        Twins.looks("promise 26: its own, though others are as good", outAndBack(700, 0), x -> x.bestTime(1, 120), 700);
        Twins.looks("promise 26: later is nearer", outAndBack(601, 0), x -> x.bestTime(1, 120), 610);
        Twins.looks("promise 26: earlier is nearer", outAndBack(599, 0), x -> x.bestTime(1, 120), 590);
        Twins.looks("promise 26: nothing is better", x -> x.trip(0, 0, 1, 600, 10), x -> x.bestTime(0, 120), 600);
    }

    /** "of these the earlier one" */
    private static void promise26TheEarlierOne() {
        Twins.looks("promise 26: ten minutes to both", outAndBack(600, 0), x -> x.bestTime(1, 10), 590);
        Twins.looks("promise 26: nine are not enough", outAndBack(600, 0), x -> x.bestTime(1, 9), 600);
        Twins.looks("promise 26: seventy minutes to both", outAndBack(600, 60), x -> x.bestTime(1, 70), 530);
    }

    /** "the fewest buses by deficits" (of a terminal and a route, with setting 0 as 0; of trips that are run) */
    private static void promise26ByDeficits() {
        Twins.Past unlike = x -> {
            x.trip(2, 0, 1, 600, 10);
            x.trip(3, 1, 0, 610, 10);
        };
        Twins.looks("promise 26: unlike routes, shared", unlike, x -> x.bestTime(1, 120), 615);
        Twins.looks("promise 26: unlike routes, not shared", x -> {
            unlike.happensTo(x);
            x.set(0, 0);
        }, x -> x.bestTime(1, 120), 610);
        Twins.looks("promise 26: like routes, not shared", x -> {
            x.trip(3, 0, 1, 600, 10);
            x.trip(3, 1, 0, 610, 10);
            x.set(0, 0);
        }, x -> x.bestTime(1, 120), 615);
        Twins.looks("promise 26: the other one is lost", x -> {
            unlike.happensTo(x);
            x.fail(0);
        }, x -> x.bestTime(1, 120), 610);
        Twins.looks("promise 26: it may leave its block", x -> {
            x.trip(0, 0, 1, 600, 10);
            x.trip(0, 1, 0, 615, 10);
            x.trip(0, 0, 1, 629, 10);
            x.follow(1, 0);
        }, x -> x.bestTime(2, 120), 630);
    }

    // ---- promise 27: ifFailed

    private static void promise27() {
        promise27Trip();
        promise27Lost();
        promise27HowMany();
    }

    /** "IndexOutOfBoundsException if there is no such trip" */
    private static void promise27Trip() {
        Twins.range("promise 27: trip", Twins::twentyTrips, 0, 19, BusBlocks::ifFailed, Twins.INDEX);
        Twins.refuses("promise 27: trip 5", Twins::busy, x -> x.ifFailed(LAST_TRIP + 1), Twins.INDEX);
        Twins.refuses("promise 27: without trips", x -> { }, x -> x.ifFailed(0), Twins.INDEX);
    }

    /** "IllegalStateException if it is lost" */
    private static void promise27Lost() {
        Twins.refuses("promise 27: lost", Twins::busy, x -> x.ifFailed(Twins.BUSY_LOST), Twins.STATE);
    }

    private static Twins.Past busyWith(int spares, int wait) {
        return x -> {
            Twins.busy(x);
            x.set(2, spares);
            x.set(3, wait);
        };
    }

    /** "Returns how many." (one spare bus was used) */
    private static void promise27HowMany() {
        int[] waits = {0, 1, 35, 36, 70, 71, 240};
        int[] due = {0, 1, 1, 2, 2, 3, 3};
        for (int place = 0; place < waits.length; place++) {
            String text = "promise 27: a wait of " + waits[place];
            Twins.looks(text, busyWith(2, waits[place]), x -> x.ifFailed(0), due[place]);
            Twins.looks(text + ", no spare bus left", busyWith(1, waits[place]), x -> x.ifFailed(0), 3);
            Twins.looks(text + ", no spare bus", busyWith(0, waits[place]), x -> x.ifFailed(1), 2);
        }
        BusBlocks x = Twins.after(Twins::twentyTrips);
        x.blockAll();
        Check.due("promise 27: the last one", x.ifFailed(19), 1);
        x.set(2, 0);
        Check.due("promise 27: all twenty", x.ifFailed(0), 20);
        Check.due("promise 27: the last one, no spare bus", x.ifFailed(19), 1);
    }

    // ---- promise 28: drivenShare

    private static void promise28() {
        promise28WithoutBlocks();
        promise28Share();
    }

    /** "1.0 without blocks" */
    private static void promise28WithoutBlocks() {
        BusBlocks x = new BusBlocks();
        Check.dueShare("promise 28: without trips", x.drivenShare(), 1.0);
        x.trip(0, 0, 0, 0, 1);
        x.trip(0, 0, 0, 100, 1);
        Check.chain(x, 0, 1);
        Check.dueShare("promise 28: one block", x.drivenShare(), 2.0 / 101.0);
        x.set(2, 0);
        x.fail(0);
        Check.dueShare("promise 28: all are lost", x.drivenShare(), 1.0);
    }

    /** "The minutes of all trips that are run .. divided by the minutes of all blocks .. together" */
    private static void promise28Share() {
        BusBlocks x = new BusBlocks();
        x.layover(0, 0);
        x.trip(0, 0, 0, 100, 10);
        x.trip(0, 0, 0, 110, 10);
        Check.chain(x, 0, 1);
        Check.dueShare("promise 28: without a minute between", x.drivenShare(), 1.0);
        x.shift(1, 111);
        Check.chain(x, 0, 1);
        Check.dueShare("promise 28: a minute between", x.drivenShare(), 20.0 / 21.0);
        x.trip(0, 0, 0, 1439, 240);
        Check.dueShare("promise 28: a block more", x.drivenShare(), 260.0 / 261.0);
        x.set(2, 2);
        x.fail(2);
        Check.dueShare("promise 28: it is lost", x.drivenShare(), 20.0 / 21.0);
        BusBlocks least = new BusBlocks();
        least.trip(0, 0, 0, 0, 1);
        least.trip(0, 0, 0, 1439, 1);
        Check.chain(least, 0, 1);
        Check.dueShare("promise 28: the least share", least.drivenShare(), 2.0 / 1440.0);
        BusBlocks full = Twins.after(Twins::twentyTrips);
        Check.dueShare("promise 28: twenty alone", full.drivenShare(), 1.0);
        full.blockAll();
        Check.dueShare("promise 28: twenty in one block", full.drivenShare(), 200.0 / 1150.0);
    }

    // ---- promise 29: digest

    private static void promise29() {
        promise29NewObject();
        promise29OneTrip();
        promise29LostTrip();
        promise29SlotsAndBuffer();
        promise29ThreeDuties();
        promise29OneTripMore();
        promise29TenMinutes();
        promise29Shares();
    }

    private static long hash(long start, long... values) {
        long hash = start;
        for (long value : values) {
            hash = 31 * hash + value;
        }
        return hash;
    }

    private static final long[] FIRST_SETTINGS = {1, 480, 1, 30};
    private static final long ONE = 0x3FF0000000000000L;

    /** "The hash starts at 3457."; no trip, no block, no snapshot, no sign */
    private static void promise29NewObject() {
        long due = hash(3457, 0, 0, 0, 0, 0, 1, 0, 0, 0, 0, 0);
        due = hash(due, FIRST_SETTINGS);
        due = hash(due, 5, 1, 0, 0, 0, 5, 1, 0, 0, 0, 5, 0, 0, 0, 0, 5, 0, 0, 0, 0);
        due = hash(due, 1, ONE, 0, 0, 0);
        Twins.looks("promise 29: a new object", x -> { }, BusBlocks::digest, due);
    }

    private static void promise29OneTrip() {
        long due = hash(3457, 1, 1, 1, 1, 1, 1, 0, 0, 1, 1, 1);
        due = hash(due, FIRST_SETTINGS);
        due = hash(due, 5, 1, 0, 0, 0, 5, 1, 0, 0, 0, 5, 0, 1, 0, 1, 5, 0, 0, 1, 0);
        due = hash(due, 1, 2, 3, 1439, 1679, NONE, NONE, 0, 0, 1439, 1);
        due = hash(due, 0, 1, 240, 0, 0, 1, 1);
        due = hash(due, 0, 0, 240, NONE, NONE, NONE, NONE, NONE, NONE);
        due = hash(due, 2, ONE, 0, 0, 0);
        Twins.looks("promise 29: one trip", x -> x.trip(1, 2, 3, 1439, 240), BusBlocks::digest, due);
    }

    /** "for each trip its properties 0 to 8, and, if it is run, bestTime by 10 and ifFailed" */
    private static void promise29LostTrip() {
        long due = hash(3457, 1, 0, 0, 0, 0, 0, 1, 0, 0, 0, 2);
        due = hash(due, FIRST_SETTINGS);
        due = hash(due, 5, 1, 0, 0, 0, 5, 1, 0, 0, 0, 5, 0, 0, 0, 0, 5, 0, 0, 0, 0);
        due = hash(due, 1, 2, 3, 1439, 1679, NONE, NONE, NONE, 1);
        due = hash(due, 1, ONE, 0, 0, 0);
        Twins.looks("promise 29: one trip, lost", x -> {
            x.trip(1, 2, 3, 1439, 240);
            x.fail(0);
        }, BusBlocks::digest, due);
    }

    /** "for each slot 1 if it has a snapshot, otherwise 0; the length of the buffer and each of its character codes" */
    private static void promise29SlotsAndBuffer() {
        long start = hash(3457, 0, 0, 0, 0, 0, 1, 0, 0, 0, 0, 0);
        start = hash(start, FIRST_SETTINGS);
        start = hash(start, 5, 1, 0, 0, 0, 5, 1, 0, 0, 0, 5, 0, 0, 0, 0, 5, 0, 0, 0, 0);
        start = hash(start, 1, ONE);
        Twins.looks("promise 29: slot 0", x -> x.keep(0), BusBlocks::digest, hash(start, 1, 0, 0));
        Twins.looks("promise 29: slot 1", x -> x.keep(1), BusBlocks::digest, hash(start, 0, 1, 0));
        Twins.looks("promise 29: both slots", x -> {
            x.keep(0);
            x.keep(1);
        }, BusBlocks::digest, hash(start, 1, 1, 0));
        Twins.looks("promise 29: two signs", x -> {
            x.append(33);
            x.append(126);
        }, BusBlocks::digest, hash(start, 0, 0, 2, 33, 126));
        long sixty = hash(start, 0, 0, 60);
        for (int sign = 0; sign < 60; sign++) {
            sixty = hash(sixty, 33 + sign);
        }
        Twins.looks("promise 29: sixty signs", x -> {
            for (int sign = 0; sign < 60; sign++) {
                x.append(33 + sign);
            }
        }, BusBlocks::digest, sixty);
        Twins.looks("promise 29: signs that are cleared do not count", x -> {
            Check.type(x, "0123");
            x.clearBuffer();
        }, BusBlocks::digest, hash(start, 0, 0, 0));
    }

    /** "for each block .. the duties 0 to 2, each with 0 to 2" (not a fourth one) */
    private static void promise29ThreeDuties() {
        Twins.Past past = x -> {
            for (int trip = 0; trip < 4; trip++) {
                x.trip(0, 0, 0, 100 * trip, 50 + trip);
            }
            Check.chain(x, 0, 1, 2, 3);
            x.set(1, 60);
        };
        Twins.looks("promise 29: four duties", past, x -> x.blockOf(0, 5), 4);
        Twins.looks("promise 29: three of them", past, BusBlocks::digest, DigestTest.due(past, "", 0, 0));
    }

    /** "ifTrip of 0, 0, 1, 600, 30" (each of its numbers, on both sides) */
    private static void promise29OneTripMore() {
        int[][] trips = {
            {0, 1, 0, 594, 1}, {0, 1, 0, 595, 1}, {1, 1, 0, 594, 1}, {0, 1, 0, 593, 1},
            {0, 1, 2, 635, 9}, {0, 1, 2, 634, 9}, {1, 1, 2, 635, 9}, {0, 1, 2, 636, 9}};
        int[] due = {1, 2, 2, 1, 1, 2, 2, 1};
        for (int place = 0; place < due.length; place++) {
            int[] t = trips[place];
            Twins.Past past = x -> {
                x.set(0, 0);
                x.trip(t[0], t[1], t[2], t[3], t[4]);
            };
            Twins.looks("promise 29: beside trip " + place, past, x -> x.ifTrip(0, 0, 1, 600, 30), due[place]);
            Twins.looks("promise 29: with trip " + place, past, BusBlocks::digest, DigestTest.due(past, "", 0, 0));
        }
    }

    /** "bestTime by 10" (not by 9, nor by 11) */
    private static void promise29TenMinutes() {
        for (int departure = 599; departure <= 601; departure++) {
            for (int layover = 0; layover <= 2; layover++) {
                Twins.Past past = outAndBack(departure, layover);
                Twins.looks("promise 29: at " + departure, past, BusBlocks::digest, DigestTest.due(past, "", 0, 0));
            }
        }
    }

    /** "the bits of drivenShare (as Double.doubleToLongBits)" (from the least share to 1.0) */
    private static void promise29Shares() {
        for (int departure : new int[] {1, 2, 3, 4, 7, 15, 16, 100, 1000, 1439}) {
            for (int length : new int[] {1, 2, 3, 9, 100, 240}) {
                Twins.Past past = x -> {
                    x.layover(0, 0);
                    x.trip(0, 0, 0, 0, 1);
                    x.trip(0, 0, 0, departure, length);
                    Check.chain(x, 0, 1);
                };
                double due = (1.0 + length) / (departure + length);
                Check.dueShare("promise 28: drivenShare()", Twins.after(past).drivenShare(), due);
                Twins.looks("promise 29: its bits", past, BusBlocks::digest, DigestTest.due(past, "", 0, 0));
            }
        }
    }
}
