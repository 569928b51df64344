/** The boundaries that the sentences of "Terms" name; what a promise names again is tested with the promise. */
public final class TermsBoundsTest {
    private static final int NONE = BusBlocks.NONE;

    public static void main(String[] args) {
        terminalsAndTrips();
        reasons();
        blocks();
        blockingAll();
        deficits();
        duties();
        failures();
        callsOfAnObject();
        Check.finish();
    }

    // ---- terminals, trips: promises 1, 4, 18, 19

    private static void terminalsAndTrips() {
        firstTerminals();
        arrivalLaterThanTheDay();
        noTrip();
        twentyTrips();
        numberedAsTheyCame();
        fromATerminalToItself();
        atFirstRun();
    }

    /** "There are 4 terminals .. a layover .. at first 5 .. a point of relief .. at first the terminals 0 and 1 are." */
    private static void firstTerminals() {
        BusBlocks x = new BusBlocks();
        for (int terminal = 0; terminal <= 3; terminal++) {
            Check.due("promise 1: the layover of " + terminal, x.terminalOf(terminal, 0), 5);
            Check.due("promise 1: the relief of " + terminal, x.terminalOf(terminal, 1), terminal <= 1 ? 1 : 0);
        }
        Check.noSuch("promise 18: a fifth terminal", () -> x.terminalOf(4, 0));
    }

    /** "Times are minutes of the day, 0 to 1439; an arrival can be later." */
    private static void arrivalLaterThanTheDay() {
        BusBlocks x = new BusBlocks();
        x.layover(1, 0);
        x.trip(0, 0, 1, 1438, 1);
        x.trip(0, 0, 1, 1439, 1);
        x.trip(0, 0, 1, 1439, 240);
        x.trip(0, 1, 0, 1439, 1);
        Check.due("promise 19: in the day's last minute", x.tripOf(0, 4), 1439);
        Check.due("promise 19: in the next day's first one", x.tripOf(1, 4), 1440);
        Check.due("promise 19: as late as can be", x.tripOf(2, 4), 1679);
        Check.due("promise 24: behind 1439", x.whyNot(3, 0), 0);
        Check.due("promise 24: behind 1440", x.whyNot(3, 1), 4);
        Check.due("promise 18: 1439 is there in time", x.terminalOf(1, 4), 0);
        x.layover(1, 1);
        Check.due("promise 18: a minute's layover more is not", x.terminalOf(1, 4), 1);
    }

    private static void noTrip() {
        BusBlocks x = new BusBlocks();
        Check.due("promise 9: blockAll()", x.blockAll(), 0);
        Check.due("promise 22: blocks", x.count(2), 0);
        Check.due("promise 22: under way", x.count(8), 0);
        Check.due("promise 22: duties", x.count(9), 0);
        Check.due("promise 25: ifTrip", x.ifTrip(0, 0, 0, 0, 1), 1);
        Check.dueShare("promise 28: drivenShare()", x.drivenShare(), 1.0);
        Check.due("promise 15: keep(0)", x.keep(0), 0);
        Check.due("promise 16: goBack(0)", x.goBack(0), 0);
    }

    /** "There are at most 20 trips" */
    private static void twentyTrips() {
        BusBlocks x = Twins.after(Twins::twentyTrips);
        Check.due("promise 22: trips", x.count(0), 20);
        Check.due("promise 22: run", x.count(1), 20);
        Check.due("promise 22: blocks", x.count(2), 20);
        Check.due("promise 19: the last one", x.tripOf(19, 3), 1140);
        Check.badState("promise 4: the 21st", () -> x.trip(0, 0, 0, 0, 1));
        Check.due("promise 15: keep(1)", x.keep(1), 20);
        Check.due("promise 16: goBack(1)", x.goBack(1), 20);
        Check.due("promise 18: trips from 0", x.terminalOf(0, 2), 20);
        Check.due("promise 18: trips to 0", x.terminalOf(0, 3), 20);
    }

    /** "numbered from 0 in the order in which they came" */
    private static void numberedAsTheyCame() {
        BusBlocks x = new BusBlocks();
        Check.due("promise 4: the late one", x.trip(0, 0, 0, 900, 10), 0);
        Check.due("promise 4: the early one", x.trip(0, 0, 0, 100, 10), 1);
        x.set(2, 0);
        x.fail(0);
        Check.due("promise 4: a lost one keeps its number", x.trip(0, 0, 0, 500, 10), 2);
        x.undo();
        Check.due("promise 4: a number that is free again", x.trip(0, 0, 0, 700, 10), 2);
        Check.type(x, "000@1+1;000@2+1");
        x.load();
        Check.due("promise 14: the first of the text", x.tripOf(3, 3), 1);
        Check.due("promise 14: the second of the text", x.tripOf(4, 3), 2);
    }

    /** "a terminal from which it goes and one to which it goes (perhaps the same)" */
    private static void fromATerminalToItself() {
        BusBlocks x = new BusBlocks();
        for (int terminal = 0; terminal <= 3; terminal++) {
            Check.due("promise 4: from " + terminal + " to it", x.trip(0, terminal, terminal, 100, 10), terminal);
            Check.due("promise 18: trips from", x.terminalOf(terminal, 2), 1);
            Check.due("promise 18: trips to", x.terminalOf(terminal, 3), 1);
            Check.due("promise 18: its deficit", x.terminalOf(terminal, 4), 1);
        }
        x.trip(0, 2, 2, 114, 10);
        x.trip(0, 2, 2, 115, 10);
        Check.due("promise 24: a minute too early", x.whyNot(4, 2), 4);
        Check.due("promise 7: behind the layover", x.follow(5, 2), 0);
    }

    /** "A trip is run or lost, at first run." */
    private static void atFirstRun() {
        BusBlocks x = new BusBlocks();
        x.trip(0, 0, 0, 0, 1);
        Check.type(x, "000@0+1");
        x.load();
        Check.due("promise 19: added by trip()", x.tripOf(0, 8), 0);
        Check.due("promise 19: added by load()", x.tripOf(1, 8), 0);
        x.fail(1);
        x.undo();
        x.undo();
        Check.due("promise 4: in the place of one that was lost", x.trip(0, 0, 0, 0, 1), 1);
        Check.due("promise 19: run", x.tripOf(1, 8), 0);
    }

    // ---- reasons: promises 7, 24

    private static void reasons() {
        reason1();
        reason2();
        reason3();
        reason4();
        reason4OfWhichTerminal();
        reason5();
        whichReasonFirst();
        neverItself();
    }

    private static void why(BusBlocks x, String text, int trip, int after, int due) {
        Check.due("promise 24: " + text, x.whyNot(trip, after), due);
        Check.due("promise 7: " + text, x.follow(trip, after), due);
        x.undo();
    }

    /** "1: one of both is lost" */
    private static void reason1() {
        BusBlocks x = new BusBlocks();
        x.trip(0, 0, 0, 100, 10);
        x.trip(0, 0, 0, 200, 10);
        x.trip(0, 0, 0, 300, 10);
        why(x, "both are run", 1, 0, 0);
        x.fail(0);
        why(x, "the first one is lost", 1, 0, 1);
        x.undo();
        x.fail(1);
        why(x, "the second one is lost", 1, 0, 1);
        why(x, "past the lost one", 2, 0, 0);
        x.set(2, 2);
        x.fail(0);
        why(x, "both are lost", 1, 0, 1);
        why(x, "a lost one and itself", 1, 1, 1);
    }

    /** "2: the first one has a trip that follows it, or the second one follows one" */
    private static void reason2() {
        BusBlocks x = new BusBlocks();
        for (int trip = 0; trip < 4; trip++) {
            x.trip(0, 0, 0, 100 * trip, 10);
        }
        Check.chain(x, 0, 2);
        why(x, "the first one is followed", 3, 0, 2);
        why(x, "the second one follows", 2, 1, 2);
        why(x, "both follow each other already", 2, 0, 2);
        why(x, "the first one follows, which is no reason", 3, 2, 0);
        Check.chain(x, 1, 3);
        x.part(1);
        why(x, "parted, it can again", 3, 1, 0);
        x.shift(0, 5);
        why(x, "the second one is followed, which is no reason", 2, 0, 0);
    }

    /** "3: the second one does not go from where the first one goes to" */
    private static void reason3() {
        BusBlocks x = new BusBlocks();
        for (int to = 0; to <= 3; to++) {
            x.trip(0, 1, to, 100, 10);
        }
        for (int from = 0; from <= 3; from++) {
            x.trip(0, from, 1, 500, 10);
        }
        for (int pair = 0; pair < 16; pair++) {
            why(x, "to " + pair / 4 + ", from " + pair % 4, 4 + pair % 4, pair / 4, pair / 4 == pair % 4 ? 0 : 3);
        }
    }

    /** "4: its departure is earlier than the arrival of the first one and the layover of this terminal, together" */
    private static void reason4() {
        for (int layover : new int[] {0, 1, 5, 60}) {
            BusBlocks x = new BusBlocks();
            x.layover(2, layover);
            x.trip(0, 0, 2, 100, 20);
            x.trip(0, 2, 0, 120 + layover, 1);
            x.trip(0, 2, 0, 119 + layover, 1);
            why(x, "at the arrival and a layover of " + layover, 1, 0, 0);
            why(x, "a minute earlier, with a layover of " + layover, 2, 0, 4);
        }
    }

    private static void reason4OfWhichTerminal() {
        BusBlocks x = new BusBlocks();
        x.trip(0, 0, 1, 100, 20);
        x.trip(0, 1, 2, 125, 20);
        for (int other : new int[] {0, 2, 3}) {
            x.layover(other, 60);
        }
        why(x, "the layovers of other terminals do not count", 1, 0, 0);
        x.layover(1, 6);
        why(x, "that of this terminal does", 1, 0, 4);
    }

    /** "5: they have unlike routes, and setting 0 is 0" */
    private static void reason5() {
        BusBlocks x = new BusBlocks();
        for (int route = 0; route <= 3; route++) {
            x.trip(route, 0, 0, 100, 10);
            x.trip(route, 0, 0, 200, 10);
        }
        for (int pair = 0; pair < 16; pair++) {
            int first = pair / 4;
            int second = pair % 4;
            why(x, "routes " + first + " and " + second + ", shared", 2 * second + 1, 2 * first, 0);
            x.set(0, 0);
            int due = first == second ? 0 : 5;
            why(x, "routes " + first + " and " + second + ", not shared", 2 * second + 1, 2 * first, due);
            x.undo();
        }
    }

    /** "otherwise the first reason": of each two that can apply together, the lower one */
    private static void whichReasonFirst() {
        BusBlocks x = new BusBlocks();
        x.set(0, 0);
        x.set(2, 0);
        x.trip(0, 0, 1, 600, 10);
        x.trip(0, 1, 0, 700, 10);
        x.trip(1, 1, 0, 100, 10);
        x.trip(1, 2, 0, 100, 10);
        x.trip(1, 2, 0, 700, 10);
        x.trip(1, 1, 0, 700, 10);
        why(x, "3 ahead of 4 and 5", 3, 0, 3);
        why(x, "3 ahead of 5", 4, 0, 3);
        why(x, "4 ahead of 5", 2, 0, 4);
        why(x, "5 alone", 5, 0, 5);
        Check.chain(x, 0, 1);
        why(x, "2 ahead of 3, 4 and 5", 3, 0, 2);
        why(x, "2 ahead of 4 and 5", 2, 0, 2);
        why(x, "2 ahead of 5", 5, 0, 2);
        x.fail(3);
        why(x, "1 ahead of 2 to 5", 3, 0, 1);
        x.part(0);
        why(x, "1 ahead of 3 to 5", 3, 0, 1);
    }

    /** "(So a trip never follows itself.)" */
    private static void neverItself() {
        BusBlocks x = new BusBlocks();
        x.layover(0, 0);
        x.trip(0, 0, 0, 0, 1);
        x.trip(0, 0, 1, 0, 1);
        why(x, "itself, from a terminal to it", 0, 0, 4);
        why(x, "itself, to another terminal", 1, 1, 3);
        x.trip(0, 0, 0, 1, 1);
        Check.chain(x, 0, 2);
        why(x, "itself, followed", 0, 0, 2);
        why(x, "itself, following", 2, 2, 2);
    }

    // ---- blocks: promises 19, 20, 22

    private static void blocks() {
        inJustOneBlock();
        numberedByFirstTrips();
    }

    /** "Each trip that is run is in just one block, alone or with others" */
    private static void inJustOneBlock() {
        BusBlocks x = Twins.after(Twins::busy);
        int[] blocks = {0, 0, 0, NONE, 1};
        int together = 0;
        for (int trip = 0; trip < blocks.length; trip++) {
            Check.due("promise 19: the block of " + trip, x.tripOf(trip, 7), blocks[trip]);
        }
        for (int block = 0; block < x.count(2); block++) {
            together += x.blockOf(block, 1);
        }
        Check.due("promise 20: trips of all blocks", together, x.count(1));
        Check.due("promise 20: alone", x.blockOf(1, 1), 1);
    }

    /** "the blocks are numbered from 0 by the numbers of their first trips" (those that go first, not the lowest ones) */
    private static void numberedByFirstTrips() {
        BusBlocks x = new BusBlocks();
        for (int trip = 0; trip < 4; trip++) {
            x.trip(0, 0, 0, 900 - 100 * trip, 10);
        }
        int[] alone = {0, 1, 2, 3};
        numbers(x, "alone", alone);
        Check.chain(x, 3, 0);
        numbers(x, "0 follows 3", 2, 0, 1, 2);
        Check.chain(x, 2, 1);
        numbers(x, "1 follows 2", 1, 0, 0, 1);
        x.set(2, 0);
        x.fail(1);
        numbers(x, "1 is lost", 1, NONE, 0, 1);
        x.fail(2);
        numbers(x, "2 is lost", 0, NONE, NONE, 0);
    }

    private static void numbers(BusBlocks x, String text, int... due) {
        for (int trip = 0; trip < due.length; trip++) {
            Check.due("promise 19: " + text + ", the block of " + trip, x.tripOf(trip, 7), due[trip]);
        }
    }

    // ---- to block all trips: promises 9, 22

    private static void blockingAll() {
        allArePartedFirst();
        takenByDepartures();
        theEarliestArrival();
        orNone();
    }

    /** "all blocks are parted" */
    private static void allArePartedFirst() {
        BusBlocks x = new BusBlocks();
        x.trip(0, 0, 0, 100, 10);
        x.trip(0, 0, 0, 300, 10);
        x.trip(0, 0, 0, 200, 10);
        Check.chain(x, 0, 1);
        x.layover(0, 60);
        Check.due("promise 9: one block", x.blockAll(), 1);
        Check.due("promise 9: the next one follows", x.tripOf(2, 5), 0);
        Check.due("promise 9: what followed is parted", x.tripOf(1, 5), 2);
        x.layover(0, 5);
        x.shift(2, 301);
        Check.chain(x, 0, 1);
        x.set(0, 0);
        x.trip(1, 0, 0, 400, 10);
        x.set(0, 1);
        Check.chain(x, 1, 3);
        x.set(0, 0);
        x.blockAll();
        Check.due("promise 9: what could not follow now is parted", x.tripOf(3, 5), NONE);
    }

    /** "the trips that are run are taken by their departures, of several the lowest first" */
    private static void takenByDepartures() {
        BusBlocks x = new BusBlocks();
        x.trip(0, 0, 1, 0, 10);
        x.trip(0, 1, 2, 301, 10);
        x.trip(0, 1, 2, 300, 10);
        x.trip(0, 1, 2, 300, 20);
        x.blockAll();
        Check.due("promise 9: of equal departures the lowest", x.tripOf(0, 6), 2);
        x.shift(3, 299);
        x.blockAll();
        Check.due("promise 9: a minute earlier", x.tripOf(0, 6), 3);
        x.set(2, 0);
        x.fail(3);
        x.blockAll();
        Check.due("promise 9: a lost one is not taken", x.tripOf(0, 6), 2);
        Check.due("promise 22: nor counted", x.count(3), 2);
    }

    /** "each follows .. the one with the earliest arrival (of several the lowest)" */
    private static void theEarliestArrival() {
        BusBlocks x = new BusBlocks();
        x.trip(0, 0, 1, 100, 31);
        x.trip(0, 0, 1, 110, 20);
        x.trip(0, 0, 1, 105, 25);
        x.trip(0, 1, 2, 300, 10);
        x.blockAll();
        Check.due("promise 9: of equal arrivals the lowest", x.tripOf(3, 5), 1);
        x.shift(2, 104);
        x.blockAll();
        Check.due("promise 9: a minute earlier", x.tripOf(3, 5), 2);
        x.shift(0, 99);
        x.blockAll();
        Check.due("promise 9: the lowest, a minute later", x.tripOf(3, 5), 2);
        x.shift(0, 98);
        x.blockAll();
        Check.due("promise 9: the lowest, as early", x.tripOf(3, 5), 0);
    }

    /** "or none, if there is none" */
    private static void orNone() {
        BusBlocks x = new BusBlocks();
        x.trip(0, 0, 1, 100, 20);
        x.trip(0, 1, 2, 124, 20);
        Check.due("promise 9: a minute too early", x.blockAll(), 2);
        Check.due("promise 9: it follows none", x.tripOf(1, 5), NONE);
        x.shift(1, 125);
        Check.due("promise 9: just in time", x.blockAll(), 1);
        Check.due("promise 9: it follows", x.tripOf(1, 5), 0);
        x.trip(0, 1, 2, 900, 20);
        Check.due("promise 9: the only one is taken", x.blockAll(), 2);
        Check.due("promise 9: the later one follows none", x.tripOf(2, 5), NONE);
    }

    // ---- deficits: promises 18, 22

    private static void deficits() {
        upToThisTime();
        atLeastNone();
        ofTripsThatAreRun();
        ofATerminalAndARoute();
        theGreatestNumber();
    }

    private static void deficitIs(BusBlocks x, String text, int terminal, int due) {
        Check.due("promise 18: " + text, x.terminalOf(terminal, 4), due);
    }

    /** "with departures up to this time, less the trips to it whose arrivals and layovers there are up to this time" */
    private static void upToThisTime() {
        for (int layover : new int[] {0, 1, 5, 60}) {
            BusBlocks x = new BusBlocks();
            x.layover(3, layover);
            x.trip(0, 2, 3, 100, 20);
            x.trip(0, 3, 2, 120 + layover, 1);
            deficitIs(x, "ready as it goes, layover " + layover, 3, 0);
            Check.due("promise 22: one bus, layover " + layover, x.count(4), 1);
            x.shift(1, 119 + layover);
            deficitIs(x, "ready a minute later, layover " + layover, 3, 1);
            Check.due("promise 22: two buses, layover " + layover, x.count(4), 2);
        }
        BusBlocks x = new BusBlocks();
        x.trip(0, 1, 0, 125, 1);
        x.trip(0, 0, 1, 100, 20);
        x.layover(0, 60);
        deficitIs(x, "the layover of another terminal does not count", 1, 0);
        x.shift(1, 101);
        deficitIs(x, "the earlier one was added later, and is a minute late", 1, 1);
    }

    /** "at least 0" */
    private static void atLeastNone() {
        BusBlocks x = new BusBlocks();
        deficitIs(x, "without trips", 0, 0);
        x.trip(0, 0, 1, 100, 20);
        x.trip(0, 0, 1, 100, 20);
        deficitIs(x, "trips to it alone", 1, 0);
        deficitIs(x, "no trips", 2, 0);
        Check.due("promise 22: they take nothing from the others", x.count(4), 2);
        x.trip(0, 1, 2, 90, 1);
        deficitIs(x, "buses that come later do not help", 1, 1);
    }

    /** "of trips that are run alone" */
    private static void ofTripsThatAreRun() {
        BusBlocks x = new BusBlocks();
        x.trip(0, 0, 1, 100, 20);
        x.trip(0, 1, 0, 300, 20);
        x.set(2, 2);
        x.fail(1);
        deficitIs(x, "the trip from it is lost", 1, 0);
        x.undo();
        x.fail(0);
        deficitIs(x, "the trip to it is lost", 1, 1);
        deficitIs(x, "nothing goes from it", 0, 0);
        x.fail(1);
        Check.due("promise 22: all are lost", x.count(4), 0);
    }

    /** "(with setting 0 as 0: of a terminal and a route)" */
    private static void ofATerminalAndARoute() {
        BusBlocks x = new BusBlocks();
        x.trip(0, 0, 1, 100, 20);
        x.trip(3, 1, 0, 125, 20);
        deficitIs(x, "shared", 1, 0);
        x.set(0, 0);
        deficitIs(x, "not shared", 1, 1);
        Check.due("promise 22: not shared", x.count(4), 2);
        x.trip(0, 1, 0, 200, 20);
        deficitIs(x, "one of the same route comes too", 1, 1);
        x.trip(0, 1, 0, 201, 20);
        deficitIs(x, "the sum of two routes", 1, 2);
        BusBlocks apart = new BusBlocks();
        apart.trip(1, 0, 0, 100, 20);
        apart.trip(2, 0, 0, 500, 20);
        deficitIs(apart, "one after the other, shared", 0, 1);
        apart.set(0, 0);
        deficitIs(apart, "one after the other, not shared", 0, 2);
    }

    /** "the greatest number, over all times" */
    private static void theGreatestNumber() {
        BusBlocks x = new BusBlocks();
        x.layover(1, 0);
        x.trip(0, 1, 0, 0, 1);
        deficitIs(x, "at the first minute", 1, 1);
        x.trip(0, 0, 1, 100, 10);
        x.trip(0, 0, 1, 100, 10);
        x.trip(0, 1, 0, 200, 1);
        deficitIs(x, "later there are enough", 1, 1);
        x.trip(0, 1, 0, 1439, 1);
        x.trip(0, 1, 0, 1439, 240);
        deficitIs(x, "at the last minute", 1, 2);
        BusBlocks full = new BusBlocks();
        for (int trip = 0; trip < 20; trip++) {
            full.trip(0, 3, 3, 1439, 240);
        }
        deficitIs(full, "twenty at once", 3, 20);
        Check.due("promise 22: twenty buses", full.count(4), 20);
        Check.due("promise 22: twenty blocks", full.count(3), 20);
    }

    // ---- duties: promises 20, 21, 22

    private static void duties() {
        hoursAtMost();
        hoursFromFirstToLast();
        atPointsOfRelief();
        thereMayBeNone();
        twentyDuties();
    }

    private static void fewest(BusBlocks x, String text, int due) {
        Check.due("promise 20: " + text + ", forwards", x.blockOf(0, 5), due);
        Check.due("promise 20: " + text + ", backwards", x.blockOf(0, 6), due);
        Check.due("promise 22: " + text, x.count(9), due);
    }

    /** "The hours of a duty are .. at most setting 1." */
    private static void hoursAtMost() {
        for (int hours : new int[] {60, 61, 480, 900}) {
            BusBlocks x = new BusBlocks();
            x.trip(0, 0, 0, 100, 10);
            x.trip(0, 0, 0, 100 + hours - 10, 10);
            Check.chain(x, 0, 1);
            x.set(1, hours);
            fewest(x, "just " + hours, 1);
            Check.due("promise 21: just " + hours, x.duty(0, 0, 2), hours);
            x.part(0);
            x.shift(1, 100 + hours - 9);
            Check.chain(x, 0, 1);
            fewest(x, "a minute more than " + hours, 2);
            Check.due("promise 21: a minute more than " + hours, x.duty(0, 0, 2), 10);
        }
        BusBlocks x = new BusBlocks();
        x.trip(0, 0, 0, 0, 60);
        x.set(1, 60);
        fewest(x, "one trip of just the hours", 1);
        x.undo();
        x.undo();
        x.trip(0, 0, 0, 0, 61);
        x.set(1, 60);
        fewest(x, "one trip of a minute more", NONE);
        x.set(1, 61);
        fewest(x, "a minute's hours more", 1);
    }

    /** "from the departure of its first trip to the arrival of its last one" (no layover counts) */
    private static void hoursFromFirstToLast() {
        BusBlocks x = new BusBlocks();
        x.layover(0, 60);
        x.trip(0, 0, 0, 0, 30);
        x.trip(0, 0, 0, 90, 30);
        Check.chain(x, 0, 1);
        x.set(1, 120);
        fewest(x, "to the arrival, not to the layover's end", 1);
        x.set(1, 119);
        fewest(x, "a minute less", 2);
        Check.due("promise 21: the second duty begins with its own trip", x.duty(0, 1, 2), 30);
    }

    /** "the next driver takes over between two trips, at a terminal that is a point of relief" */
    private static void atPointsOfRelief() {
        for (int terminal = 0; terminal <= 3; terminal++) {
            BusBlocks x = new BusBlocks();
            x.trip(0, (terminal + 1) % 4, terminal, 0, 50);
            x.trip(0, terminal, (terminal + 3) % 4, 60, 50);
            Check.chain(x, 0, 1);
            x.set(1, 60);
            boolean relief = terminal <= 1;
            fewest(x, "cut at " + terminal, relief ? 2 : NONE);
            x.relief(terminal);
            fewest(x, "cut at " + terminal + ", turned", relief ? NONE : 2);
            x.set(1, 110);
            fewest(x, "no cut at " + terminal, 1);
        }
        BusBlocks x = new BusBlocks();
        x.trip(0, 2, 3, 0, 60);
        x.set(1, 60);
        fewest(x, "a block begins and ends where it does", 1);
        BusBlocks later = new BusBlocks();
        later.trip(0, 0, 2, 0, 20);
        later.trip(0, 2, 0, 30, 20);
        later.trip(0, 0, 2, 60, 20);
        Check.chain(later, 0, 1, 2);
        later.set(1, 60);
        fewest(later, "a cut behind the second trip alone", 2);
        later.relief(0);
        later.relief(2);
        fewest(later, "a cut behind the first trip alone", 2);
        later.relief(2);
        fewest(later, "no cut", NONE);
    }

    /** "there may be none" */
    private static void thereMayBeNone() {
        BusBlocks x = new BusBlocks();
        x.trip(0, 0, 0, 0, 30);
        x.trip(0, 0, 2, 40, 30);
        x.trip(0, 2, 0, 80, 61);
        Check.chain(x, 0, 1, 2);
        x.set(1, 60);
        fewest(x, "the last trip is too long", NONE);
        for (int what = 0; what <= 2; what++) {
            Check.due("promise 21: not even a first duty", x.duty(0, 0, what), NONE);
        }
        x.trip(0, 0, 0, 0, 30);
        Check.due("promise 20: another block can be cut", x.blockOf(1, 5), 1);
        Check.due("promise 20: another block can be cut, backwards", x.blockOf(1, 6), 1);
        Check.due("promise 22: not all together", x.count(9), NONE);
        x.relief(2);
        fewest(x, "still too long", NONE);
        x.set(1, 61);
        Check.due("promise 22: three of the one, one of the other", x.count(9), 4);
    }

    private static void twentyDuties() {
        BusBlocks x = Twins.after(Twins::twentyTrips);
        x.blockAll();
        x.set(1, 69);
        fewest(x, "a duty a trip", 20);
        Check.due("promise 21: the last duty", x.duty(0, 19, 0), 19);
        Check.due("promise 21: no more", x.duty(0, 20, 0), NONE);
        x.set(1, 70);
        fewest(x, "two trips a duty", 10);
        Check.due("promise 21: the last duty's first trip", x.duty(0, 9, 0), 18);
        Check.due("promise 21: the last duty's last trip", x.duty(0, 9, 1), 19);
        BusBlocks one = new BusBlocks();
        for (int trip = 0; trip < 20; trip++) {
            one.trip(0, 0, 0, 40 * trip, 10);
        }
        one.blockAll();
        one.set(1, 770);
        fewest(one, "all in one", 1);
        Check.due("promise 21: its last trip", one.duty(0, 0, 1), 19);
        one.set(1, 769);
        fewest(one, "all but one", 2);
        Check.due("promise 21: the last trip alone", one.duty(0, 1, 0), 19);
        BusBlocks blocks = Twins.after(Twins::twentyTrips);
        Check.due("promise 22: twenty blocks", blocks.count(9), 20);
    }

    // ---- failures: promises 10, 22, 27

    private static void failures() {
        asLongAsTheyAreNotUsed();
        earlierThan();
        noneWithoutAWait();
        thoseBehindStayOneBlock();
        noSpareLeft();
        lostOnesFollowNone();
        twentyAreLost();
    }

    /** Five trips, each forty minutes, which follow one another. */
    private static void row(BusBlocks x) {
        for (int trip = 0; trip < 5; trip++) {
            x.trip(0, 0, 0, 100 + 40 * trip, 10);
        }
        Check.chain(x, 0, 1, 2, 3, 4);
    }

    private static void failing(BusBlocks x, String text, int trip, int due) {
        Check.due("promise 27: " + text, x.ifFailed(trip), due);
        Check.due("promise 10: " + text, x.fail(trip), due);
    }

    /** "There are setting 2 spare buses, as long as they are not used." */
    private static void asLongAsTheyAreNotUsed() {
        BusBlocks x = new BusBlocks();
        for (int trip = 0; trip < 12; trip++) {
            x.trip(0, 0, 0, 100, 10);
        }
        x.set(2, 9);
        for (int trip = 0; trip < 9; trip++) {
            Check.due("promise 22: spare buses left", x.count(5), 9 - trip);
            failing(x, "a spare bus is used", trip, 1);
        }
        Check.due("promise 22: none is left", x.count(5), 0);
        failing(x, "without a spare bus", 9, 1);
        Check.due("promise 22: not below 0", x.count(5), 0);
        Check.due("promise 22: failures", x.count(6), 10);
        x.set(2, 0);
        Check.due("promise 22: at least 0", x.count(5), 0);
        x.set(2, 8);
        Check.due("promise 22: one was used too many", x.count(5), 0);
        x.set(2, 9);
        Check.due("promise 22: just those that were used", x.count(5), 0);
        for (int undone = 0; undone < 5; undone++) {
            Check.due("promise 22: none is left", x.count(5), 0);
            x.undo();
        }
        Check.due("promise 22: its use is undone, one is left", x.count(5), 1);
    }

    /** "whose departures are earlier than that of this one and setting 3, together, are lost" */
    private static void earlierThan() {
        int[][] waits = {{1, 1}, {40, 1}, {41, 2}, {80, 2}, {81, 3}, {120, 3}, {121, 4}, {160, 4}, {161, 5}, {240, 5}};
        for (int[] wait : waits) {
            BusBlocks x = Twins.after(TermsBoundsTest::row);
            x.set(3, wait[0]);
            failing(x, "a wait of " + wait[0], 0, wait[1]);
            for (int trip = 0; trip < 5; trip++) {
                Check.due("promise 19: lost by a wait of " + wait[0], x.tripOf(trip, 8), trip < wait[1] ? 1 : 0);
            }
            Check.due("promise 22: spare buses left", x.count(5), 0);
        }
        for (int departure : new int[] {339, 340}) {
            BusBlocks x = new BusBlocks();
            x.trip(0, 0, 0, 100, 10);
            x.trip(0, 0, 0, departure, 10);
            Check.chain(x, 0, 1);
            x.set(3, 240);
            failing(x, "the longest wait, and a departure at " + departure, 0, departure == 339 ? 2 : 1);
        }
    }

    /** "(with setting 3 as 0 none)" */
    private static void noneWithoutAWait() {
        for (int trip = 0; trip < 5; trip++) {
            BusBlocks x = Twins.after(TermsBoundsTest::row);
            x.set(3, 0);
            failing(x, "no wait", trip, 0);
            Check.due("promise 10: all are run", x.count(1), 5);
            Check.due("promise 10: it does not follow any more", x.tripOf(trip, 5), NONE);
            Check.due("promise 10: blocks", x.count(2), trip == 0 ? 1 : 2);
            Check.due("promise 10: those behind stay with it", x.blockOf(trip == 0 ? 0 : 1, 1), 5 - trip);
            Check.due("promise 22: the spare bus is used", x.count(5), 0);
            Check.due("promise 22: it is a failure", x.count(6), 1);
        }
    }

    /** "those behind them stay one block, which does not follow any more" */
    private static void thoseBehindStayOneBlock() {
        for (int trip = 0; trip < 5; trip++) {
            BusBlocks x = Twins.after(TermsBoundsTest::row);
            failing(x, "one is lost", trip, 1);
            Check.due("promise 10: blocks", x.count(2), trip == 0 || trip == 4 ? 1 : 2);
            if (trip > 0) {
                Check.due("promise 10: those ahead stay one block", x.blockOf(0, 1), trip);
                Check.due("promise 10: nothing follows them", x.tripOf(trip - 1, 6), NONE);
            }
            if (trip < 4) {
                Check.due("promise 10: those behind stay one block", x.blockOf(trip == 0 ? 0 : 1, 1), 4 - trip);
                Check.due("promise 10: they follow nothing", x.tripOf(trip + 1, 5), NONE);
            }
        }
    }

    /** "If there is no spare one, this trip and all behind it in the block are lost." */
    private static void noSpareLeft() {
        for (int trip = 0; trip < 5; trip++) {
            for (int wait : new int[] {0, 240}) {
                BusBlocks x = Twins.after(TermsBoundsTest::row);
                x.set(2, 0);
                x.set(3, wait);
                failing(x, "no spare bus, from " + trip + " on", trip, 5 - trip);
                Check.due("promise 10: those ahead are run", x.count(1), trip);
                Check.due("promise 10: those ahead stay one block", x.count(2), trip == 0 ? 0 : 1);
                Check.due("promise 22: it is a failure", x.count(6), 1);
                x.set(2, 1);
                Check.due("promise 22: no spare bus was used", x.count(5), 1);
            }
        }
        BusBlocks last = Twins.after(TermsBoundsTest::row);
        last.trip(0, 0, 0, 1000, 10);
        failing(last, "the last spare bus", 5, 1);
        failing(last, "behind the last spare bus", 1, 4);
    }

    /** "Trips that are lost follow none, and none follows them." */
    private static void lostOnesFollowNone() {
        BusBlocks x = Twins.after(TermsBoundsTest::row);
        x.set(3, 41);
        x.fail(1);
        x.fail(4);
        for (int trip : new int[] {1, 2, 4}) {
            Check.due("promise 19: a lost one follows none", x.tripOf(trip, 5), NONE);
            Check.due("promise 19: none follows a lost one", x.tripOf(trip, 6), NONE);
            Check.due("promise 19: a lost one is in no block", x.tripOf(trip, 7), NONE);
            Check.due("promise 7: nor can it follow", x.follow(trip, 0), 1);
            Check.due("promise 7: nor can one follow it", x.follow(3, trip), 1);
            Check.badState("promise 8: nor be parted", () -> x.part(trip));
        }
        x.blockAll();
        Check.due("promise 9: nor be blocked", x.tripOf(4, 5), NONE);
        Check.due("promise 9: the others are", x.tripOf(3, 5), 0);
    }

    private static void twentyAreLost() {
        BusBlocks x = Twins.after(Twins::twentyTrips);
        x.blockAll();
        x.set(2, 0);
        failing(x, "a block of twenty", 0, 20);
        Check.due("promise 22: none is run", x.count(1), 0);
        Check.due("promise 22: no block", x.count(2), 0);
        Check.due("promise 22: no duty", x.count(9), 0);
        Check.dueShare("promise 28: nothing is driven", x.drivenShare(), 1.0);
    }

    // ---- "An object is used for at most 512 calls"

    private static void callsOfAnObject() {
        BusBlocks x = new BusBlocks();
        for (int call = 1; call < 510; call++) {
            Check.due("call " + call, x.layover(0, call % 61), call == 1 ? 5 : (call - 1) % 61);
        }
        Check.due("call 510", x.count(10), 6);
        Check.due("call 511", x.undo(), 5);
        Check.due("call 512", x.terminalOf(0, 0), 508 % 61);
    }
}
