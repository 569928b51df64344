/** The boundaries that promises 1 to 10 name, a test for each sentence, which stands above it. */
public final class ChangesBoundsTest {
    private static final int NONE = BusBlocks.NONE;
    private static final int NO_SUCH = 9;

    public static void main(String[] args) {
        promise1();
        promise2();
        promise3();
        promise4();
        promise5();
        promise6();
        promise7();
        promise8();
        promise9();
        promise10();
        Check.finish();
    }

    // ---- promise 1

    private static void promise1() {
        promise1WithoutTrips();
        promise1EmptySlots();
        promise1EmptyBuffer();
        promise1NothingSaved();
    }

    /** "Creates a timetable without trips" */
    private static void promise1WithoutTrips() {
        int[] counts = {0, 0, 0, 0, 0, 1, 0, 0, 0, 0, 0};
        for (int what = 0; what < counts.length; what++) {
            int asked = what;
            Twins.looks("promise 1: count(" + what + ")", x -> { }, x -> x.count(asked), counts[what]);
        }
        Twins.refuses("promise 1: no trip 0", x -> { }, x -> x.tripOf(0, 0), Twins.INDEX);
        Twins.refuses("promise 1: no block 0", x -> { }, x -> x.blockOf(0, 0), Twins.INDEX);
    }

    /** "with empty slots" */
    private static void promise1EmptySlots() {
        Twins.refuses("promise 1: goBack(0)", x -> { }, x -> x.goBack(0), Twins.STATE);
        Twins.refuses("promise 1: goBack(1)", x -> { }, x -> x.goBack(1), Twins.STATE);
    }

    /** "and an empty buffer" */
    private static void promise1EmptyBuffer() {
        Twins.looks("promise 1: clearBuffer()", x -> { }, BusBlocks::clearBuffer, 0);
        Check.due("promise 1: the first sign", new BusBlocks().append('0'), 1);
    }

    private static void promise1NothingSaved() {
        Twins.refuses("promise 1: undo()", x -> { }, BusBlocks::undo, Twins.STATE);
    }

    // ---- promise 2: layover

    private static void promise2() {
        promise2Terminal();
        promise2Minutes();
        promise2WhichException();
        promise2Before();
        promise2FollowsStays();
        promise2Undoable();
    }

    /** "terminal: 0 to 3" */
    private static void promise2Terminal() {
        Twins.range("promise 2: terminal", Twins::busy, 0, 3, (x, v) -> x.layover(v, 5), Twins.INDEX);
    }

    /** "minutes: 0 to 60" */
    private static void promise2Minutes() {
        for (int terminal = 0; terminal <= 3; terminal++) {
            int t = terminal;
            Twins.range("promise 2: minutes at " + t, Twins::busy, 0, 60, (x, v) -> x.layover(t, v), Twins.ARGUMENT);
        }
        BusBlocks x = new BusBlocks();
        x.layover(2, 60);
        Check.due("promise 2: 60 minutes", x.terminalOf(2, 0), 60);
        x.layover(2, 0);
        Check.due("promise 2: no minute", x.terminalOf(2, 0), 0);
    }

    private static void promise2WhichException() {
        Twins.refuses("promise 2: layover(4, 61)", Twins::busy, x -> x.layover(4, 61), Twins.INDEX);
        Twins.refuses("promise 2: layover(-1, -1)", Twins::busy, x -> x.layover(-1, -1), Twins.INDEX);
    }

    /** "Returns the layover before." */
    private static void promise2Before() {
        BusBlocks x = new BusBlocks();
        for (int terminal = 0; terminal <= 3; terminal++) {
            Check.due("promise 2: the first layover", x.layover(terminal, 60), 5);
            Check.due("promise 2: from the greatest to the least", x.layover(terminal, 0), 60);
            Check.due("promise 2: to the same", x.layover(terminal, 0), 0);
        }
    }

    /** "(what follows stays)" */
    private static void promise2FollowsStays() {
        BusBlocks x = new BusBlocks();
        x.trip(0, 0, 1, 100, 20);
        x.trip(0, 1, 0, 125, 20);
        Check.chain(x, 0, 1);
        x.layover(1, 60);
        Check.due("promise 2: it still follows", x.tripOf(1, 5), 0);
        Check.due("promise 2: it is still followed", x.tripOf(0, 6), 1);
        x.part(0);
        Check.due("promise 2: once parted, it cannot", x.follow(1, 0), 4);
    }

    /** "Undoable."; "also if it changes nothing" */
    private static void promise2Undoable() {
        Twins.undoable("promise 2: layover(1, 60)", Twins::busy, x -> x.layover(1, 60), 5);
        Twins.undoable("promise 2: the same layover", Twins::busy, x -> x.layover(1, 5), 5);
    }

    // ---- promise 3: relief

    private static void promise3() {
        promise3Terminal();
        promise3OrNone();
        promise3Undoable();
    }

    /** "terminal: 0 to 3" */
    private static void promise3Terminal() {
        Twins.range("promise 3: terminal", Twins::busy, 0, 3, BusBlocks::relief, Twins.INDEX);
    }

    /** "Makes a terminal a point of relief, or none, if it is one." "Returns 1 if it is one then, otherwise 0." */
    private static void promise3OrNone() {
        for (int terminal = 0; terminal <= 3; terminal++) {
            BusBlocks x = new BusBlocks();
            int first = terminal <= 1 ? 1 : 0;
            Check.due("promise 3: relief(" + terminal + ")", x.relief(terminal), 1 - first);
            for (int other = 0; other <= 3; other++) {
                int before = other <= 1 ? 1 : 0;
                Check.due("promise 3: of " + other, x.terminalOf(other, 1), other == terminal ? 1 - before : before);
            }
            Check.due("promise 3: relief(" + terminal + ") again", x.relief(terminal), first);
            Check.due("promise 3: as before", x.terminalOf(terminal, 1), first);
        }
    }

    /** "Undoable." */
    private static void promise3Undoable() {
        Twins.undoable("promise 3: relief(0)", Twins::busy, x -> x.relief(0), 0);
        Twins.undoable("promise 3: relief(3)", Twins::busy, x -> x.relief(3), 1);
    }

    // ---- promise 4: trip

    private static void promise4() {
        promise4Arguments();
        promise4Twenty();
        promise4WhichException();
        promise4BlockOfItsOwn();
        promise4Undoable();
    }

    /** "route: 0 to 3", "from: 0 to 3", "to: 0 to 3", "departure: 0 to 1439", "length: 1 to 240" */
    private static void promise4Arguments() {
        Twins.Past busy = Twins::busy;
        Twins.range("promise 4: route", busy, 0, 3, (x, v) -> x.trip(v, 0, 0, 0, 1), Twins.ARGUMENT);
        Twins.range("promise 4: from", busy, 0, 3, (x, v) -> x.trip(0, v, 0, 0, 1), Twins.ARGUMENT);
        Twins.range("promise 4: to", busy, 0, 3, (x, v) -> x.trip(0, 0, v, 0, 1), Twins.ARGUMENT);
        Twins.range("promise 4: departure", busy, 0, 1439, (x, v) -> x.trip(0, 0, 0, v, 1), Twins.ARGUMENT);
        Twins.range("promise 4: length", busy, 1, 240, (x, v) -> x.trip(0, 0, 0, 0, v), Twins.ARGUMENT);
        BusBlocks x = new BusBlocks();
        x.trip(0, 0, 0, 0, 1);
        x.trip(3, 3, 3, 1439, 240);
        int[][] due = {{0, 0, 0, 0, 1}, {3, 3, 3, 1439, 1679}};
        for (int what = 0; what <= 4; what++) {
            Check.due("promise 4: the least of " + what, x.tripOf(0, what), due[0][what]);
            Check.due("promise 4: the greatest of " + what, x.tripOf(1, what), due[1][what]);
        }
    }

    /** "IllegalStateException if there are 20"; "Returns its number." */
    private static void promise4Twenty() {
        BusBlocks x = new BusBlocks();
        for (int trip = 0; trip < 20; trip++) {
            Check.due("promise 4: its number", x.trip(0, 0, 0, 0, 1), trip);
        }
        Twins.refuses("promise 4: with 20", Twins::twentyTrips, y -> y.trip(0, 0, 0, 0, 1), Twins.STATE);
        Check.due("promise 4: 20 trips", x.count(0), 20);
        x.undo();
        Check.due("promise 4: there is room again", x.trip(0, 0, 0, 0, 1), 19);
        x.set(2, 0);
        x.fail(7);
        Check.badState("promise 4: a lost trip leaves no room", () -> x.trip(0, 0, 0, 0, 1));
    }

    private static void promise4WhichException() {
        Twins.Past full = Twins::twentyTrips;
        Twins.refuses("promise 4: route 4 with 20", full, x -> x.trip(4, 0, 0, 0, 1), Twins.ARGUMENT);
        Twins.refuses("promise 4: from -1 with 20", full, x -> x.trip(0, -1, 0, 0, 1), Twins.ARGUMENT);
        Twins.refuses("promise 4: to 4 with 20", full, x -> x.trip(0, 0, 4, 0, 1), Twins.ARGUMENT);
        Twins.refuses("promise 4: departure 1440 with 20", full, x -> x.trip(0, 0, 0, 1440, 1), Twins.ARGUMENT);
        Twins.refuses("promise 4: length 0 with 20", full, x -> x.trip(0, 0, 0, 0, 0), Twins.ARGUMENT);
    }

    /** "Adds a trip, as a block of its own." (also if it could follow) */
    private static void promise4BlockOfItsOwn() {
        BusBlocks x = new BusBlocks();
        x.trip(0, 0, 0, 100, 10);
        x.trip(0, 0, 0, 200, 10);
        Check.due("promise 4: it could follow", x.whyNot(1, 0), 0);
        Check.due("promise 4: it follows none", x.tripOf(1, 5), NONE);
        Check.due("promise 4: none follows it", x.tripOf(1, 6), NONE);
        Check.due("promise 4: its block", x.tripOf(1, 7), 1);
        Check.due("promise 4: run", x.tripOf(1, 8), 0);
        Check.due("promise 4: blocks", x.count(2), 2);
    }

    /** "Undoable." */
    private static void promise4Undoable() {
        Twins.undoable("promise 4: trip", Twins::busy, x -> x.trip(1, 2, 3, 4, 5), Twins.BUSY_TRIPS);
        Twins.undoable("promise 4: the first trip", x -> { }, x -> x.trip(1, 2, 3, 4, 5), 0);
    }

    // ---- promise 5: shift

    private static void promise5() {
        promise5Trip();
        promise5Departure();
        promise5Lost();
        promise5WhichException();
        promise5TakenOut();
        promise5SameDeparture();
        promise5Undoable();
    }

    /** "IndexOutOfBoundsException if there is no such trip" */
    private static void promise5Trip() {
        Twins.range("promise 5: trip", Twins::busy, 0, Twins.BUSY_TRIPS - 1, (x, v) -> x.shift(v, 0), Twins.INDEX);
        Twins.range("promise 5: of 20", Twins::twentyTrips, 0, 19, (x, v) -> x.shift(v, 0), Twins.INDEX);
        Twins.refuses("promise 5: without trips", x -> { }, x -> x.shift(0, 0), Twins.INDEX);
    }

    /** "departure: 0 to 1439" */
    private static void promise5Departure() {
        Twins.range("promise 5: departure", Twins::busy, 0, 1439, (x, v) -> x.shift(1, v), Twins.ARGUMENT);
        BusBlocks x = new BusBlocks();
        x.trip(0, 0, 0, 700, 240);
        Check.due("promise 5: the departure before", x.shift(0, 1439), 700);
        Check.due("promise 5: the last departure", x.tripOf(0, 3), 1439);
        Check.due("promise 5: an arrival later", x.tripOf(0, 4), 1679);
        Check.due("promise 5: the departure before", x.shift(0, 0), 1439);
        Check.due("promise 5: the first departure", x.tripOf(0, 3), 0);
        Check.due("promise 5: its arrival", x.tripOf(0, 4), 240);
    }

    /** "IllegalStateException if the trip is lost" */
    private static void promise5Lost() {
        Twins.refuses("promise 5: lost", Twins::busy, x -> x.shift(Twins.BUSY_LOST, 0), Twins.STATE);
        Twins.refuses("promise 5: lost, to the same", Twins::busy, x -> x.shift(Twins.BUSY_LOST, 100), Twins.STATE);
    }

    private static void promise5WhichException() {
        Twins.Past busy = Twins::busy;
        Twins.refuses("promise 5: no trip, no time", busy, x -> x.shift(NO_SUCH, -1), Twins.INDEX);
        Twins.refuses("promise 5: lost, no time", busy, x -> x.shift(Twins.BUSY_LOST, 1440), Twins.ARGUMENT);
        Twins.refuses("promise 5: lost, below 0", busy, x -> x.shift(Twins.BUSY_LOST, -1), Twins.ARGUMENT);
    }

    private static void fiveInARow(BusBlocks x) {
        for (int trip = 0; trip < 5; trip++) {
            x.trip(0, 0, 0, 100 * trip, 10);
        }
        Check.chain(x, 0, 1, 2, 3, 4);
    }

    /** "it is taken out of its block: those ahead of it stay one block, and those behind it" */
    private static void promise5TakenOut() {
        int[][] befores = {
            {NONE, NONE, 1, 2, 3}, {NONE, NONE, NONE, 2, 3}, {NONE, 0, NONE, NONE, 3},
            {NONE, 0, 1, NONE, NONE}, {NONE, 0, 1, 2, NONE}};
        for (int moved = 0; moved < 5; moved++) {
            BusBlocks x = Twins.after(ChangesBoundsTest::fiveInARow);
            Check.due("promise 5: shift(" + moved + ", 1000)", x.shift(moved, 1000), 100 * moved);
            for (int trip = 0; trip < 5; trip++) {
                String text = "promise 5: with " + moved + " taken out, of " + trip;
                int behind = trip < 4 && befores[moved][trip + 1] == trip ? trip + 1 : NONE;
                Check.due(text + ", follows", x.tripOf(trip, 5), befores[moved][trip]);
                Check.due(text + ", is followed", x.tripOf(trip, 6), behind);
            }
            Check.due("promise 5: blocks without " + moved, x.count(2), moved == 0 || moved == 4 ? 2 : 3);
        }
        BusBlocks alone = new BusBlocks();
        alone.trip(0, 0, 0, 100, 10);
        alone.shift(0, 101);
        Check.due("promise 5: alone", alone.count(2), 1);
    }

    private static void promise5SameDeparture() {
        BusBlocks x = Twins.after(ChangesBoundsTest::fiveInARow);
        Check.due("promise 5: to the same", x.shift(2, 200), 200);
        Check.due("promise 5: it is taken out, too", x.count(2), 3);
    }

    /** "Undoable." */
    private static void promise5Undoable() {
        Twins.undoable("promise 5: shift", Twins::busy, x -> x.shift(1, 1000), 515);
        Twins.undoable("promise 5: to the same, alone", Twins::busy, x -> x.shift(4, 1439), 1439);
    }

    // ---- promise 6: set

    private static final int[] LEAST = {0, 60, 0, 0};
    private static final int[] FIRST = {1, 480, 1, 30};
    private static final int[] MOST = {1, 900, 9, 240};

    private static void promise6() {
        promise6Setting();
        promise6Values();
        promise6WhichException();
        promise6Before();
        promise6FollowsStays();
        promise6Undoable();
    }

    /** "setting: 0 to 3" (240 is the greatest value of setting 3, 60 is none of setting 0) */
    private static void promise6Setting() {
        Twins.range("promise 6: setting", Twins::busy, 0, 3, (x, v) -> x.set(v, v == 1 ? 60 : 1), Twins.INDEX);
    }

    /** "0: .. (1) or not (0)", "1: .. 60 to 900", "2: .. 0 to 9", "3: .. 0 to 240" */
    private static void promise6Values() {
        for (int setting = 0; setting <= 3; setting++) {
            int s = setting;
            String text = "promise 6: setting " + s;
            Twins.range(text, Twins::busy, LEAST[s], MOST[s], (x, v) -> x.set(s, v), Twins.ARGUMENT);
            BusBlocks x = new BusBlocks();
            x.set(s, LEAST[s]);
            Check.due(text + ", the least", x.setting(s), LEAST[s]);
            x.set(s, MOST[s]);
            Check.due(text + ", the greatest", x.setting(s), MOST[s]);
            for (int other = 0; other <= 3; other++) {
                Check.due(text + ", the others stay", x.setting(other), other == s ? MOST[s] : FIRST[other]);
            }
        }
    }

    private static void promise6WhichException() {
        Twins.refuses("promise 6: set(4, -1)", Twins::busy, x -> x.set(4, -1), Twins.INDEX);
        Twins.refuses("promise 6: set(-1, 1000)", Twins::busy, x -> x.set(-1, 1000), Twins.INDEX);
    }

    /** "Returns the previous value." */
    private static void promise6Before() {
        BusBlocks x = new BusBlocks();
        for (int setting = 0; setting <= 3; setting++) {
            Check.due("promise 6: the first value", x.set(setting, MOST[setting]), FIRST[setting]);
            Check.due("promise 6: the greatest value", x.set(setting, LEAST[setting]), MOST[setting]);
            Check.due("promise 6: the least value", x.set(setting, LEAST[setting]), LEAST[setting]);
        }
    }

    /** "(what follows stays)" */
    private static void promise6FollowsStays() {
        BusBlocks x = new BusBlocks();
        x.trip(0, 0, 0, 100, 10);
        x.trip(1, 0, 0, 200, 10);
        Check.chain(x, 0, 1);
        x.set(0, 0);
        Check.due("promise 6: it still follows", x.tripOf(1, 5), 0);
        Check.due("promise 6: it is still followed", x.tripOf(0, 6), 1);
        x.set(1, 60);
        Check.due("promise 6: the hours are too few, it follows", x.tripOf(1, 5), 0);
        x.part(0);
        Check.due("promise 6: once parted, it cannot", x.follow(1, 0), 5);
    }

    /** "Undoable."; "also if it changes nothing" */
    private static void promise6Undoable() {
        Twins.undoable("promise 6: set(0, 0)", Twins::busy, x -> x.set(0, 0), 1);
        Twins.undoable("promise 6: set(2, 0)", Twins::busy, x -> x.set(2, 0), 2);
        Twins.undoable("promise 6: the same value", Twins::busy, x -> x.set(3, 30), 30);
    }

    // ---- promise 7: follow

    private static void promise7() {
        promise7Trips();
        promise7Refused();
        promise7RefusedWithSixSaved();
        promise7ThrowingIsNotRefused();
        promise7Undoable();
    }

    /** "IndexOutOfBoundsException if there is no such trip" */
    private static void promise7Trips() {
        int last = Twins.BUSY_TRIPS - 1;
        Twins.range("promise 7: trip", Twins::busy, 0, last, (x, v) -> x.follow(v, 0), Twins.INDEX);
        Twins.range("promise 7: after", Twins::busy, 0, last, (x, v) -> x.follow(0, v), Twins.INDEX);
        Twins.range("promise 7: trip of 20", Twins::twentyTrips, 0, 19, (x, v) -> x.follow(v, 0), Twins.INDEX);
        Twins.range("promise 7: after of 20", Twins::twentyTrips, 0, 19, (x, v) -> x.follow(0, v), Twins.INDEX);
        Twins.refuses("promise 7: without trips", x -> { }, x -> x.follow(0, 0), Twins.INDEX);
        Twins.refuses("promise 7: after a lost one", Twins::busy, x -> x.follow(NO_SUCH, Twins.BUSY_LOST), Twins.INDEX);
    }

    /** Trips of which 1 to 5 cannot follow trip 0, each for the reason of its number; two states are saved. */
    private static void reasons(BusBlocks x) {
        x.trip(0, 0, 1, 600, 30);
        x.trip(0, 1, 0, 700, 10);
        x.trip(0, 1, 0, 710, 10);
        x.trip(0, 2, 0, 720, 10);
        x.trip(0, 1, 0, 634, 10);
        x.trip(1, 1, 0, 635, 10);
        x.trip(0, 0, 1, 650, 10);
        x.set(2, 0);
        x.set(0, 0);
        x.fail(1);
        x.follow(2, 6);
        x.keep(0);
        Twins.undoSix(x);
        x.goBack(0);
        x.relief(3);
    }

    /** "otherwise the first reason"; "Undoable, also if it is refused"; count 7: "what was refused so far" */
    private static void promise7Refused() {
        for (int reason = 1; reason <= 5; reason++) {
            int trip = reason;
            String text = "promise 7: refused for " + reason;
            BusBlocks x = Twins.after(ChangesBoundsTest::reasons);
            String before = Twins.timetable(x);
            Check.due(text, x.follow(trip, 0), reason);
            Check.due(text + ": counted", x.count(7), 1);
            Check.due(text + ": saved", x.count(10), 3);
            Check.dueText(text + ": all else stays", Twins.timetable(x), before);
            Check.due(text + " again", x.follow(trip, 0), reason);
            Check.due(text + ": counted again", x.count(7), 2);
            x.undo();
            Check.due(text + ": undone", x.count(7), 1);
            x.undo();
            Check.due(text + ": undone again", x.count(7), 0);
            Twins.undoable(text, ChangesBoundsTest::reasons, y -> y.follow(trip, 0), reason);
        }
    }

    /** "At most 6 states are saved", also by what is refused */
    private static void promise7RefusedWithSixSaved() {
        BusBlocks x = new BusBlocks();
        x.trip(0, 0, 0, 100, 10);
        for (int refused = 1; refused <= 8; refused++) {
            x.follow(0, 0);
            Check.due("promise 7: saved", x.count(10), Math.min(6, refused + 1));
        }
        for (int left = 5; left >= 0; left--) {
            x.undo();
            Check.due("promise 7: refused so far", x.count(7), 2 + left);
        }
        Check.badState("promise 7: the oldest ones were dropped", x::undo);
    }

    private static void promise7ThrowingIsNotRefused() {
        BusBlocks x = Twins.after(Twins::busy);
        Check.outcome(() -> x.follow(NO_SUCH, 0));
        Check.outcome(() -> x.part(4));
        Check.outcome(() -> x.fail(Twins.BUSY_LOST));
        Check.due("promise 7: what throws is not counted", x.count(7), 1);
        Check.due("promise 7: nor what is told alone", x.whyNot(0, 0) + x.count(7), 3);
    }

    /** "Returns 0 if it does then"; "Undoable" */
    private static void promise7Undoable() {
        Twins.Past parted = x -> {
            Twins.busy(x);
            x.part(1);
        };
        Twins.undoable("promise 7: follow(2, 1)", parted, x -> x.follow(2, 1), 0);
        BusBlocks x = Twins.after(parted);
        x.follow(2, 1);
        Check.due("promise 7: it follows then", x.tripOf(2, 5), 1);
        Check.due("promise 7: it is followed then", x.tripOf(1, 6), 2);
        Check.due("promise 7: nothing more is refused", x.count(7), 1);
    }

    // ---- promise 8: part

    private static void promise8() {
        promise8Trip();
        promise8NoneFollows();
        promise8Returns();
        promise8Undoable();
    }

    /** "IndexOutOfBoundsException if there is no such trip" */
    private static void promise8Trip() {
        Twins.Past row = ChangesBoundsTest::fiveInARow;
        for (int trip : new int[] {-1, 5, Integer.MIN_VALUE, Integer.MAX_VALUE}) {
            Twins.refuses("promise 8: part(" + trip + ")", row, x -> x.part(trip), Twins.INDEX);
        }
        Twins.refuses("promise 8: without trips", x -> { }, x -> x.part(0), Twins.INDEX);
        Twins.refuses("promise 8: the 21st", Twins::twentyTrips, x -> x.part(20), Twins.INDEX);
    }

    /** "IllegalStateException if none does" */
    private static void promise8NoneFollows() {
        Twins.refuses("promise 8: the last one", ChangesBoundsTest::fiveInARow, x -> x.part(4), Twins.STATE);
        Twins.refuses("promise 8: alone", Twins::busy, x -> x.part(4), Twins.STATE);
        Twins.refuses("promise 8: lost", Twins::busy, x -> x.part(Twins.BUSY_LOST), Twins.STATE);
        Twins.refuses("promise 8: parted already", x -> {
            fiveInARow(x);
            x.part(2);
        }, x -> x.part(2), Twins.STATE);
    }

    /** "Parts a block behind a trip." "Returns the trip that followed it." */
    private static void promise8Returns() {
        for (int trip = 0; trip < 4; trip++) {
            BusBlocks x = Twins.after(ChangesBoundsTest::fiveInARow);
            Check.due("promise 8: part(" + trip + ")", x.part(trip), trip + 1);
            Check.due("promise 8: trips ahead", x.blockOf(0, 1), trip + 1);
            Check.due("promise 8: trips behind", x.blockOf(1, 1), 4 - trip);
            Check.due("promise 8: followed by none", x.tripOf(trip, 6), NONE);
            Check.due("promise 8: follows none", x.tripOf(trip + 1, 5), NONE);
        }
    }

    /** "Undoable." */
    private static void promise8Undoable() {
        Twins.undoable("promise 8: part(0)", Twins::busy, x -> x.part(0), 1);
        Twins.undoable("promise 8: part(1)", Twins::busy, x -> x.part(1), 2);
    }

    // ---- promise 9: blockAll

    private static void promise9() {
        promise9NoTrips();
        promise9OneBlockOfTwenty();
        promise9TwentyBlocks();
        promise9Undoable();
    }

    private static void promise9NoTrips() {
        Twins.undoable("promise 9: without trips", x -> { }, BusBlocks::blockAll, 0);
        BusBlocks x = new BusBlocks();
        x.trip(0, 0, 0, 100, 10);
        x.set(2, 0);
        x.fail(0);
        Check.due("promise 9: all are lost", x.blockAll(), 0);
        Check.due("promise 9: the lost one is in no block", x.tripOf(0, 7), NONE);
    }

    private static void promise9OneBlockOfTwenty() {
        BusBlocks x = Twins.after(Twins::twentyTrips);
        Check.due("promise 9: twenty trips, one block", x.blockAll(), 1);
        for (int trip = 0; trip < 20; trip++) {
            Check.due("promise 9: trip " + trip + " follows", x.tripOf(trip, 5), trip - 1);
            Check.due("promise 9: trip " + trip + " is in block 0", x.tripOf(trip, 7), 0);
        }
        Check.due("promise 9: the first is followed", x.tripOf(0, 6), 1);
        Check.due("promise 9: the last is not", x.tripOf(19, 6), NONE);
        BusBlocks backwards = new BusBlocks();
        for (int trip = 0; trip < 20; trip++) {
            backwards.trip(0, 0, 0, 1400 - 60 * trip, 10);
        }
        Check.due("promise 9: twenty, the last goes first", backwards.blockAll(), 1);
        Check.due("promise 9: trip 0 follows trip 1", backwards.tripOf(0, 5), 1);
        Check.due("promise 9: trip 19 leads", backwards.blockOf(0, 0), 19);
    }

    private static void promise9TwentyBlocks() {
        BusBlocks x = new BusBlocks();
        for (int trip = 0; trip < 20; trip++) {
            x.trip(0, 0, 0, 700, 10);
        }
        Check.due("promise 9: twenty at once", x.blockAll(), 20);
        Check.due("promise 9: the last block", x.blockOf(19, 0), 19);
    }

    /** "Undoable."; "also if it changes nothing" */
    private static void promise9Undoable() {
        Twins.undoable("promise 9: blockAll()", x -> {
            Twins.busy(x);
            x.part(0);
        }, BusBlocks::blockAll, 2);
        Twins.undoable("promise 9: nothing changes", Twins::busy, BusBlocks::blockAll, 2);
    }

    // ---- promise 10: fail

    private static void promise10() {
        promise10Trip();
        promise10Lost();
        promise10Undoable();
    }

    /** "IndexOutOfBoundsException if there is no such trip" */
    private static void promise10Trip() {
        Twins.Past row = ChangesBoundsTest::fiveInARow;
        Twins.range("promise 10: trip", row, 0, 4, BusBlocks::fail, Twins.INDEX);
        Twins.range("promise 10: of 20", Twins::twentyTrips, 0, 19, BusBlocks::fail, Twins.INDEX);
        Twins.refuses("promise 10: without trips", x -> { }, x -> x.fail(0), Twins.INDEX);
    }

    /** "IllegalStateException if it is lost" */
    private static void promise10Lost() {
        Twins.refuses("promise 10: lost", Twins::busy, x -> x.fail(Twins.BUSY_LOST), Twins.STATE);
        Twins.refuses("promise 10: lost behind another one", x -> {
            fiveInARow(x);
            x.set(2, 0);
            x.fail(2);
        }, x -> x.fail(4), Twins.STATE);
    }

    /** "Undoable."; "all, also what is counted so far" */
    private static void promise10Undoable() {
        Twins.undoable("promise 10: with a spare bus", Twins::busy, x -> x.fail(1), 1);
        Twins.undoable("promise 10: the first of a block", Twins::busy, x -> x.fail(0), 1);
        Twins.Past none = x -> {
            Twins.busy(x);
            x.set(2, 0);
        };
        Twins.undoable("promise 10: without a spare bus", none, x -> x.fail(1), 2);
        Twins.undoable("promise 10: none is lost", x -> {
            Twins.busy(x);
            x.set(3, 0);
        }, x -> x.fail(1), 0);
    }
}
