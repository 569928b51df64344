/** The boundaries that promises 11 to 17 name, with those of "Input text" and "Snapshots, undo". */
public final class TextsBoundsTest {
    private static final String SIXTY = "000@0+1;000@0+1;000@0+1;000@0+1;000@0+1;000@0+1;000@1439+240";
    private static final String SEVEN_TRIPS = "000@0+1;000@0+1;000@0+1;000@0+1;000@0+1;000@0+1;000@0+1";

    public static void main(String[] args) {
        promise11();
        promise12();
        promise13();
        promise14();
        promise15();
        promise16();
        promise17();
        Check.finish();
    }

    private static Twins.Past typed(String text) {
        return x -> Check.type(x, text);
    }

    private static void sixty(BusBlocks x) {
        Twins.busy(x);
        Check.type(x, SIXTY.substring(0, 60));
    }

    // ---- promise 11: append

    private static void promise11() {
        promise11Code();
        promise11Sixty();
        promise11WhichException();
        promise11SavesNothing();
    }

    /** "code: the character code, 33 to 126" */
    private static void promise11Code() {
        Twins.range("promise 11: code", Twins::busy, 33, 126, BusBlocks::append, Twins.ARGUMENT);
        Twins.range("promise 11: code, into an empty buffer", x -> { }, 33, 126, BusBlocks::append, Twins.ARGUMENT);
        for (int code : new int[] {33 + 256, '0' + 256, '0' + 65536, 0, 10, 255}) {
            Twins.refuses("promise 11: code " + code, Twins::busy, x -> x.append(code), Twins.ARGUMENT);
        }
    }

    /** "The buffer has at most 60 characters."; "IllegalStateException if the buffer has 60 characters" */
    private static void promise11Sixty() {
        BusBlocks x = new BusBlocks();
        for (int length = 1; length <= 60; length++) {
            Check.due("promise 11: the new length", x.append('x'), length);
        }
        Twins.refuses("promise 11: the 61st", TextsBoundsTest::sixty, y -> y.append('0'), Twins.STATE);
        Check.due("promise 11: sixty", x.clearBuffer(), 60);
        Check.due("promise 11: there is room again", x.append('x'), 1);
    }

    private static void promise11WhichException() {
        Twins.refuses("promise 11: 32 as the 61st", TextsBoundsTest::sixty, x -> x.append(32), Twins.ARGUMENT);
        Twins.refuses("promise 11: 127 as the 61st", TextsBoundsTest::sixty, x -> x.append(127), Twins.ARGUMENT);
    }

    private static void promise11SavesNothing() {
        BusBlocks x = Twins.after(Twins::busy);
        x.append('0');
        Check.due("promise 11: no state is saved", x.count(10), 3);
        x.undo();
        Check.due("promise 11: nor is it undone", x.clearBuffer(), 10);
    }

    // ---- promise 12: clearBuffer

    private static void promise12() {
        promise12Length();
        promise12SavesNothing();
    }

    /** "Returns the length that it had." */
    private static void promise12Length() {
        BusBlocks x = new BusBlocks();
        for (int length : new int[] {0, 1, 59, 60}) {
            Check.type(x, SIXTY.substring(0, length));
            Check.due("promise 12: with " + length, x.clearBuffer(), length);
            Check.due("promise 12: empty then", x.clearBuffer(), 0);
        }
    }

    private static void promise12SavesNothing() {
        BusBlocks x = Twins.after(Twins::busy);
        Check.due("promise 12: clearBuffer()", x.clearBuffer(), 9);
        Check.due("promise 12: no state is saved", x.count(10), 3);
        x.undo();
        Check.due("promise 12: nor is it undone", x.clearBuffer(), 0);
    }

    // ---- promise 13: firstError

    private static void promise13() {
        promise13NoError();
        promise13AnyLength();
        promise13Digits();
        promise13Signs();
        promise13Departures();
        promise13Lengths();
        promise13LeadingZeros();
        promise13Between();
        promise13FirstOne();
        promise13ClearedSigns();
    }

    private static void firstError(String text, int due) {
        BusBlocks x = Twins.after(typed(text));
        Check.due("promise 13: firstError() of " + text, x.firstError(), due);
    }

    /** "the length of the buffer if there is none" */
    private static void promise13NoError() {
        Twins.looks("promise 13: an empty buffer", x -> { }, BusBlocks::firstError, 0);
        Twins.looks("promise 13: one sign", typed("0"), BusBlocks::firstError, 1);
        Twins.looks("promise 13: sixty signs", typed(SIXTY.substring(0, 60)), BusBlocks::firstError, 60);
        Twins.looks("promise 13: a busy object", Twins::busy, BusBlocks::firstError, 9);
        for (int length = 0; length <= 60; length++) {
            firstError(SIXTY.substring(0, length), length);
        }
    }

    /** "if no timetable as a text, of any length, begins with .. this character" (of more than 60 signs, too) */
    private static void promise13AnyLength() {
        String full = SEVEN_TRIPS + ";000@";
        firstError(full, 60);
        firstError(full.substring(0, 56), 56);
        firstError(full.substring(0, 59) + "+", 59);
        Twins.refuses("promise 14: it is no timetable yet", typed(full), BusBlocks::load, Twins.ARGUMENT);
        firstError("x" + full.substring(1), 0);
    }

    /** "the digits of a route, of the terminal from which, and of the one to which it goes, each 0 to 3" */
    private static void promise13Digits() {
        for (int place = 0; place <= 2; place++) {
            String start = "123".substring(0, place);
            for (char digit = '0'; digit <= '3'; digit++) {
                firstError(start + digit, place + 1);
            }
            for (char wrong : "/4@;+9:a".toCharArray()) {
                firstError(start + wrong, place);
                firstError("000@0+1;" + start + wrong, place + 8);
            }
        }
        firstError("0000", 3);
    }

    /** "\"@\", a departure, \"+\", and a length" */
    private static void promise13Signs() {
        for (char wrong : "?A0+;".toCharArray()) {
            firstError("123" + wrong, 3);
        }
        firstError("123@", 4);
        for (char wrong : "@+;-/:".toCharArray()) {
            firstError("123@" + wrong, 4);
        }
        for (char wrong : "@;*,-/:".toCharArray()) {
            firstError("123@5" + wrong, 5);
        }
        firstError("123@5+", 6);
        for (char wrong : "@+;-/:0".toCharArray()) {
            firstError("123@5+" + wrong, 6);
        }
        for (char wrong : "@+:<,/".toCharArray()) {
            firstError("123@5+6" + wrong, 7);
        }
    }

    /** How many of the first digits can stand, if a number from a range can begin with each so many of them. */
    private static int taken(String digits, int least, int most) {
        for (int length = 1; length <= digits.length(); length++) {
            String start = digits.substring(0, length);
            int number = Integer.parseInt(start);
            if (number < least || number > most || !start.equals(Integer.toString(number))) {
                return length - 1;
            }
        }
        return digits.length();
    }

    /** "numbers in their ranges": departures 0 to 1439 */
    private static void promise13Departures() {
        BusBlocks x = new BusBlocks();
        for (int departure = 0; departure <= 2500; departure++) {
            if (departure % 50 == 0) {
                x = new BusBlocks();
            }
            Check.type(x, "000@" + departure);
            Check.due("promise 13: departure " + departure, x.firstError(), 4 + taken("" + departure, 0, 1439));
        }
        firstError("000@1439+1", 10);
        firstError("000@1440+1", 7);
        firstError("000@0+1", 7);
        firstError("000@14390", 8);
        firstError("000@99999", 7);
    }

    /** "numbers in their ranges": lengths 1 to 240 */
    private static void promise13Lengths() {
        BusBlocks x = new BusBlocks();
        for (int length = 0; length <= 1100; length++) {
            if (length % 40 == 0) {
                x = new BusBlocks();
            }
            Check.type(x, "000@0+" + length);
            Check.due("promise 13: length " + length, x.firstError(), 6 + taken("" + length, 1, 240));
        }
        firstError("000@0+240;", 10);
        firstError("000@0+241;", 8);
        firstError("000@0+1;", 8);
        firstError("000@0+0;", 6);
    }

    /** "without leading zeros" */
    private static void promise13LeadingZeros() {
        firstError("000@0", 5);
        firstError("000@00", 5);
        firstError("000@05", 5);
        firstError("000@0+", 6);
        firstError("000@5+05", 6);
        firstError("000@10+10", 9);
    }

    /** "one or more trips with \";\" between them" */
    private static void promise13Between() {
        firstError(";", 0);
        firstError("000@0+1;", 8);
        firstError("000@0+1;;", 8);
        firstError("000@0+1;0", 9);
        firstError("000@0+1000@0+1", 9);
        firstError("000@0+2;000@0+1;", 16);
    }

    /** "the first syntax error"; "the index of the first character that is a syntax error" */
    private static void promise13FirstOne() {
        firstError("x", 0);
        firstError("xx", 0);
        firstError("000@0+1;x00@0+x", 8);
        firstError("4000@0+1", 0);
        firstError(SIXTY.substring(0, 59) + "x", 59);
        firstError("~" + SIXTY.substring(1, 60), 0);
        Twins.looks("promise 13: the buffer stays", typed("000@0+0;1"), BusBlocks::firstError, 6);
        Twins.looks("promise 13: sixty signs stay", typed("~" + SIXTY.substring(1, 60)), BusBlocks::firstError, 0);
    }

    private static void promise13ClearedSigns() {
        BusBlocks x = new BusBlocks();
        for (int length : new int[] {0, 3, 4, 7, 8}) {
            Check.type(x, SIXTY.substring(0, 60));
            Check.type(x, SIXTY.substring(0, length));
            Check.due("promise 13: cleared signs are no signs", x.firstError(), length);
        }
        BusBlocks digit = new BusBlocks();
        Check.type(digit, "333@1439+240");
        Check.type(digit, "333@1439+24");
        Check.due("promise 14: nor are they loaded", digit.load(), 1);
        Check.due("promise 14: nor read as digits", digit.tripOf(0, 4), 1463);
        BusBlocks between = new BusBlocks();
        Check.type(between, SEVEN_TRIPS);
        Check.type(between, "000@0+1");
        Check.due("promise 14: nor read as a trip more", between.load(), 1);
        Check.due("promise 14: nor counted", Twins.after(y -> {
            tripsAndText(19, SEVEN_TRIPS).happensTo(y);
            Check.type(y, "000@0+1");
        }).load(), 20);
        Twins.refuses("promise 14: nor do they end a text", y -> {
            Check.type(y, "333@1439+240");
            Check.type(y, "333@1439+");
        }, BusBlocks::load, Twins.ARGUMENT);
    }

    // ---- promise 14: load

    private static void promise14() {
        promise14NoTimetable();
        promise14MoreThanTwenty();
        promise14WhichException();
        promise14AsTrip();
        promise14ClearsTheBuffer();
        promise14AsOneCall();
    }

    /** "IllegalArgumentException if the buffer does not tell a timetable as a text" */
    private static void promise14NoTimetable() {
        Twins.refuses("promise 14: an empty buffer", x -> { }, BusBlocks::load, Twins.ARGUMENT);
        String[] wrong = {"0", "00", "000", "000@", "000@0", "000@0+", "000@0+0", "000@0+1;", "000@0+1;000@0+", "000@1440+1",
            "000@0+241", "000@00+1", "000@0+01", "400@0+1", "040@0+1", "004@0+1", "000@0+1+1", ";000@0+1", "000@0+1x"};
        for (String text : wrong) {
            Twins.refuses("promise 14: load() of " + text, x -> {
                Twins.busy(x);
                Check.type(x, text);
            }, BusBlocks::load, Twins.ARGUMENT);
        }
        for (String text : new String[] {"000@0+1", "333@1439+240", "000@0+1;000@0+1", SIXTY.substring(0, 60)}) {
            BusBlocks x = Twins.after(typed(text));
            Check.due("promise 14: load() of " + text, x.load(), text.split(";").length);
        }
    }

    private static Twins.Past tripsAndText(int trips, String text) {
        return x -> {
            for (int trip = 0; trip < trips; trip++) {
                x.trip(0, 0, 0, 10 * trip, 1);
            }
            Check.type(x, text);
        };
    }

    /** "IllegalStateException if there would be more than 20"; "Returns how many trips there are then." */
    private static void promise14MoreThanTwenty() {
        String one = "000@0+1";
        String two = "000@0+1;000@0+1";
        Check.due("promise 14: 19 and 1", Twins.after(tripsAndText(19, one)).load(), 20);
        Check.due("promise 14: 18 and 2", Twins.after(tripsAndText(18, two)).load(), 20);
        Check.due("promise 14: 13 and 7", Twins.after(tripsAndText(13, SEVEN_TRIPS)).load(), 20);
        Check.due("promise 14: 0 and 7", Twins.after(tripsAndText(0, SEVEN_TRIPS)).load(), 7);
        Twins.refuses("promise 14: 20 and 1", tripsAndText(20, one), BusBlocks::load, Twins.STATE);
        Twins.refuses("promise 14: 19 and 2", tripsAndText(19, two), BusBlocks::load, Twins.STATE);
        Twins.refuses("promise 14: 14 and 7", tripsAndText(14, SEVEN_TRIPS), BusBlocks::load, Twins.STATE);
    }

    private static void promise14WhichException() {
        Twins.refuses("promise 14: 20 and none", tripsAndText(20, ""), BusBlocks::load, Twins.ARGUMENT);
        Twins.refuses("promise 14: 20 and a beginning", tripsAndText(20, "000@0+1;"), BusBlocks::load, Twins.ARGUMENT);
        Twins.refuses("promise 14: 20 and an error", tripsAndText(20, "000@0+1;x"), BusBlocks::load, Twins.ARGUMENT);
    }

    /** "Adds the trips in the buffer, as trip() does, one after the other" */
    private static void promise14AsTrip() {
        BusBlocks x = Twins.after(typed("000@0+1;333@1439+240;012@100+20;221@200+9"));
        x.load();
        BusBlocks y = new BusBlocks();
        y.trip(0, 0, 0, 0, 1);
        y.trip(3, 3, 3, 1439, 240);
        y.trip(0, 1, 2, 100, 20);
        y.trip(2, 2, 1, 200, 9);
        Check.dueText("promise 14: the same timetable", Twins.timetable(x), Twins.timetable(y));
        Check.due("promise 14: one could follow, but does not", x.whyNot(3, 2), 0);
        Check.due("promise 14: blocks", x.count(2), 4);
    }

    /** "and clears the buffer" */
    private static void promise14ClearsTheBuffer() {
        BusBlocks x = Twins.after(typed(SIXTY.substring(0, 60)));
        x.load();
        Check.due("promise 14: the buffer is empty", x.clearBuffer(), 0);
        Check.badArgument("promise 14: nothing is left to load", x::load);
        x.append('0');
        x.undo();
        Check.due("promise 14: undo() leaves the buffer", x.clearBuffer(), 1);
    }

    /** "Undoable, as one call." */
    private static void promise14AsOneCall() {
        BusBlocks x = Twins.after(typed(SEVEN_TRIPS));
        x.load();
        Check.due("promise 14: one state is saved", x.count(10), 1);
        Check.due("promise 14: undo()", x.undo(), 0);
        Check.due("promise 14: no trip is left", x.count(0), 0);
        Check.due("promise 14: the buffer does not come back", x.clearBuffer(), 0);
        BusBlocks six = Twins.after(tripsAndText(6, SEVEN_TRIPS));
        six.load();
        Check.due("promise 14: six stay saved", six.count(10), 6);
        for (int left = 5; left >= 0; left--) {
            six.undo();
            Check.due("promise 14: one by one", six.count(0), left + 1);
        }
    }

    // ---- promise 15: keep

    private static void promise15() {
        promise15Slot();
        promise15Returns();
        promise15InPlace();
        promise15SavesNothing();
    }

    /** "There are two slots"; "slot: 0 or 1" */
    private static void promise15Slot() {
        Twins.range("promise 15: slot", Twins::busy, 0, 1, BusBlocks::keep, Twins.ARGUMENT);
        Twins.range("promise 15: slot of a new object", x -> { }, 0, 1, BusBlocks::keep, Twins.ARGUMENT);
    }

    /** "Returns how many trips there are." */
    private static void promise15Returns() {
        Check.due("promise 15: no trip", new BusBlocks().keep(1), 0);
        Check.due("promise 15: twenty trips", Twins.after(Twins::twentyTrips).keep(0), 20);
        Check.due("promise 15: a lost one is one", Twins.after(Twins::busy).keep(0), Twins.BUSY_TRIPS);
    }

    /** "Takes a snapshot, in place of the one in the slot." */
    private static void promise15InPlace() {
        for (int slot = 0; slot <= 1; slot++) {
            BusBlocks x = new BusBlocks();
            x.layover(0, 11);
            x.keep(0);
            x.layover(0, 12);
            x.keep(1);
            x.layover(0, 13);
            x.keep(slot);
            x.goBack(slot);
            Check.due("promise 15: the new one", x.terminalOf(0, 0), 13);
            x.goBack(1 - slot);
            Check.due("promise 15: the other one stays", x.terminalOf(0, 0), slot == 0 ? 12 : 11);
        }
    }

    private static void promise15SavesNothing() {
        BusBlocks x = Twins.after(Twins::busy);
        x.keep(0);
        Check.due("promise 15: no state is saved", x.count(10), 3);
        x.undo();
        x.goBack(0);
        Check.due("promise 15: nor is it undone", x.terminalOf(0, 0), 4);
    }

    // ---- promise 16: goBack

    private static void promise16() {
        promise16Slot();
        promise16NoSnapshot();
        promise16WhichException();
        promise16Stays();
        promise16AllBut();
        promise16Undoable();
    }

    /** "slot: 0 or 1" */
    private static void promise16Slot() {
        Twins.range("promise 16: slot", Twins::busy, 0, 1, BusBlocks::goBack, Twins.ARGUMENT);
    }

    /** "IllegalStateException if there is no snapshot in it" */
    private static void promise16NoSnapshot() {
        Twins.refuses("promise 16: both are empty", Twins::twentyTrips, x -> x.goBack(0), Twins.STATE);
        for (int slot = 0; slot <= 1; slot++) {
            int filled = slot;
            Twins.Past past = x -> {
                Twins.twentyTrips(x);
                x.keep(filled);
            };
            Twins.refuses("promise 16: only " + slot + " is filled", past, x -> x.goBack(1 - filled), Twins.STATE);
            Check.due("promise 16: the filled one", Twins.after(past).goBack(slot), 20);
        }
    }

    private static void promise16WhichException() {
        Twins.refuses("promise 16: no slot -1", x -> { }, x -> x.goBack(-1), Twins.ARGUMENT);
        Twins.refuses("promise 16: no slot 2", x -> { }, x -> x.goBack(2), Twins.ARGUMENT);
    }

    /** "Goes back to a snapshot, which stays." "Returns how many trips there are then." */
    private static void promise16Stays() {
        BusBlocks x = new BusBlocks();
        Check.due("promise 16: a snapshot without trips", x.keep(0) + x.goBack(0), 0);
        Twins.twentyTrips(x);
        x.keep(1);
        for (int time = 0; time < 3; time++) {
            Check.due("promise 16: without trips", x.goBack(0), 0);
            x.trip(0, 0, 0, 0, 1);
            Check.due("promise 16: with twenty", x.goBack(1), 20);
            x.blockAll();
        }
        Check.due("promise 16: what came behind it is not in it", x.goBack(1) + x.count(2), 40);
    }

    /** "a snapshot is all but the buffer, the slots and the saved states" */
    private static void promise16AllBut() {
        BusBlocks x = Twins.after(Twins::busy);
        x.keep(0);
        String due = Twins.timetable(x);
        x.fail(0);
        x.follow(0, 0);
        x.set(0, 0);
        x.relief(0);
        x.layover(3, 1);
        x.shift(4, 3);
        x.keep(1);
        Check.type(x, "12");
        x.goBack(0);
        Check.dueText("promise 16: all of the timetable", Twins.timetable(x), due);
        Check.due("promise 16: failures so far", x.count(6), 1);
        Check.due("promise 16: refused so far", x.count(7), 1);
        Check.due("promise 16: not the buffer", x.clearBuffer(), 2);
        Check.due("promise 16: not the saved states", x.count(10), 6);
        x.goBack(1);
        Check.due("promise 16: not the other slot", x.tripOf(4, 3), 3);
    }

    /** "Undoable." */
    private static void promise16Undoable() {
        Twins.undoable("promise 16: goBack(0)", Twins::busy, x -> x.goBack(0), Twins.BUSY_TRIPS);
        Twins.undoable("promise 16: goBack(1)", Twins::busy, x -> x.goBack(1), Twins.BUSY_TRIPS);
        Twins.undoable("promise 16: nothing changes", x -> x.keep(1), x -> x.goBack(1), 0);
    }

    // ---- promise 17: undo

    private static void promise17() {
        promise17None();
        promise17HowManyAreLeft();
        promise17AtMostSix();
        promise17AllBut();
        promise17IsNotUndone();
    }

    /** "IllegalStateException if there is none" */
    private static void promise17None() {
        Twins.refuses("promise 17: a new object", x -> { }, BusBlocks::undo, Twins.STATE);
        Twins.refuses("promise 17: nothing undoable", x -> {
            Check.type(x, "000@0+1");
            x.keep(0);
            x.clearBuffer();
        }, BusBlocks::undo, Twins.STATE);
        Twins.refuses("promise 17: all is undone", x -> {
            x.trip(0, 0, 0, 0, 1);
            x.undo();
        }, BusBlocks::undo, Twins.STATE);
        Twins.refuses("promise 17: what throws saves nothing", x -> {
            Check.outcome(() -> x.trip(4, 0, 0, 0, 1));
            Check.outcome(() -> x.layover(0, 61));
            Check.outcome(() -> x.relief(4));
            Check.outcome(() -> x.set(0, 2));
            Check.outcome(() -> x.follow(0, 0));
            Check.outcome(x::load);
            Check.outcome(() -> x.goBack(0));
        }, BusBlocks::undo, Twins.STATE);
    }

    /** "Returns how many saved states are left." */
    private static void promise17HowManyAreLeft() {
        for (int calls = 1; calls <= 6; calls++) {
            BusBlocks x = new BusBlocks();
            for (int call = 0; call < calls; call++) {
                x.relief(3);
            }
            for (int left = calls - 1; left >= 0; left--) {
                Check.due("promise 17: left", x.undo(), left);
                Check.due("promise 22: saved states", x.count(10), left);
                Check.due("promise 17: restored", x.terminalOf(3, 1), left % 2);
            }
            Check.badState("promise 17: none is left", x::undo);
        }
    }

    /** "At most 6 states are saved; the oldest one is dropped first." */
    private static void promise17AtMostSix() {
        for (int calls = 6; calls <= 20; calls++) {
            BusBlocks x = new BusBlocks();
            for (int call = 1; call <= calls; call++) {
                x.layover(1, 10 + call);
                Check.due("promise 17: saved", x.count(10), Math.min(6, call));
            }
            for (int left = 5; left >= 0; left--) {
                Check.due("promise 17: left of six", x.undo(), left);
                int last = calls - 6 + left;
                Check.due("promise 17: restored", x.terminalOf(1, 0), last == 0 ? 5 : 10 + last);
            }
            Check.badState("promise 17: the older ones are dropped", x::undo);
        }
    }

    /** "all, also what is counted so far, but the buffer, the slots and the saved states" */
    private static void promise17AllBut() {
        BusBlocks x = Twins.after(Twins::busy);
        x.fail(0);
        x.follow(0, 0);
        Check.due("promise 22: failures", x.count(6), 2);
        Check.due("promise 22: refused", x.count(7), 2);
        x.keep(0);
        Check.type(x, "333");
        x.undo();
        Check.due("promise 17: refused so far", x.count(7), 1);
        Check.due("promise 17: failures so far", x.count(6), 2);
        x.undo();
        Check.due("promise 17: failures so far", x.count(6), 1);
        Check.due("promise 17: spare buses", x.count(5), 1);
        Check.due("promise 17: not the buffer", x.clearBuffer(), 3);
        x.goBack(0);
        Check.due("promise 17: not the slots", x.count(6), 2);
    }

    /** "Restores the latest saved state, and drops it." (undo() is not undoable) */
    private static void promise17IsNotUndone() {
        BusBlocks x = new BusBlocks();
        x.layover(0, 10);
        x.layover(0, 11);
        x.undo();
        x.layover(0, 12);
        Check.due("promise 17: undo()", x.undo(), 1);
        Check.due("promise 17: before the latest one", x.terminalOf(0, 0), 10);
        Check.due("promise 17: undo()", x.undo(), 0);
        Check.due("promise 17: before the first one", x.terminalOf(0, 0), 5);
        Check.badState("promise 17: no way on", x::undo);
    }
}
