/** The fewest buses and counts: promises 22, 25 and 26. */
public final class BusesTest {
    public static void main(String[] args) {
        promise22();
        underWay();
        promise25();
        promise25Full();
        promise26();
        promise26OneMinute();
        promise26Edges();
        promise26WrongInputs();
        Check.finish();
    }

    private static void promise22() {
        BusBlocks x = new BusBlocks();
        x.trip(0, 0, 1, 100, 10);
        x.trip(1, 1, 0, 115, 10);
        x.trip(2, 0, 1, 100, 10);
        x.trip(2, 3, 3, 500, 10);
        Check.chain(x, 0, 1);
        x.follow(1, 0);
        x.fail(3);
        int[] due = {4, 3, 2, 2, 2, 0, 1, 1, 2, 2, 6};
        for (int what = 0; what <= 10; what++) {
            Check.due("count(" + what + ")", x.count(what), due[what]);
        }
        x.set(0, 0);
        Check.due("buses by blocks, not shared", x.count(3), 3);
        Check.due("buses by deficits, not shared", x.count(4), 3);
        x.set(2, 3);
        Check.due("spares less those used", x.count(5), 2);
        x.set(2, 0);
        Check.due("at least 0", x.count(5), 0);
        Check.badArgument("count(-1)", () -> x.count(-1));
        Check.badArgument("count(11)", () -> x.count(11));
    }

    private static void underWay() {
        BusBlocks x = new BusBlocks();
        x.trip(0, 0, 1, 100, 10);
        x.trip(0, 0, 1, 110, 10);
        Check.due("ahead of the arrival", x.count(8), 1);
        x.shift(1, 109);
        Check.due("under way both", x.count(8), 2);
        x.trip(0, 0, 1, 119, 10);
        Check.due("the second one has arrived then", x.count(8), 2);
        x.trip(0, 0, 1, 1439, 240);
        x.trip(0, 0, 1, 1438, 2);
        x.trip(0, 0, 1, 1439, 1);
        Check.due("at the end of the day", x.count(8), 3);
        x.fail(5);
        Check.due("lost ones are not under way", x.count(8), 2);
        BusBlocks first = new BusBlocks();
        first.trip(0, 0, 1, 100, 10);
        first.trip(0, 0, 1, 90, 11);
        Check.due("as the first trip departs", first.count(8), 2);
    }

    private static void promise25() {
        BusBlocks x = new BusBlocks();
        Check.due("the first one", x.ifTrip(3, 3, 3, 1439, 240), 1);
        x.trip(0, 0, 1, 100, 10);
        Check.due("at once", x.ifTrip(0, 0, 1, 100, 10), 2);
        Check.due("back, in time", x.ifTrip(0, 1, 0, 115, 10), 1);
        Check.due("back, too early", x.ifTrip(0, 1, 0, 114, 10), 2);
        Check.due("to its terminal, in time", x.ifTrip(1, 1, 0, 85, 10), 1);
        Check.due("to its terminal, too late", x.ifTrip(1, 1, 0, 86, 10), 2);
        x.layover(1, 6);
        Check.due("with a longer layover", x.ifTrip(0, 1, 0, 115, 10), 2);
        x.layover(1, 5);
        x.set(0, 0);
        Check.due("another route", x.ifTrip(1, 1, 0, 115, 10), 2);
        Check.due("the same route", x.ifTrip(0, 1, 0, 115, 10), 1);
        Check.due("nothing is added", x.count(0), 1);
        Check.due("nothing is saved", x.count(10), 4);
        x.fail(0);
        Check.due("lost ones need none", x.ifTrip(0, 0, 1, 100, 10), 1);
    }

    private static void promise25Full() {
        BusBlocks x = new BusBlocks();
        for (int trip = 0; trip < 20; trip++) {
            x.trip(0, 0, 1, 600, 10);
        }
        Check.due("buses", x.count(4), 20);
        Check.due("also if there are 20", x.ifTrip(0, 0, 1, 600, 10), 21);
        Check.due("also if there are 20, in time", x.ifTrip(0, 1, 0, 615, 10), 20);
    }

    private static void promise26() {
        BusBlocks x = new BusBlocks();
        x.trip(0, 0, 1, 600, 10);
        x.trip(0, 1, 0, 610, 10);
        Check.due("five minutes later", x.bestTime(1, 5), 615);
        Check.due("it may not go so far", x.bestTime(1, 4), 610);
        Check.due("not at all", x.bestTime(1, 0), 610);
        Check.due("the other one, earlier", x.bestTime(0, 5), 595);
        Check.due("nearer is later, not earlier", x.bestTime(1, 30), 615);
        x.shift(1, 597);
        Check.due("nearer is earlier: 585, not 615", x.bestTime(1, 30), 585);
        x.shift(1, 600);
        Check.due("as near: the earlier one", x.bestTime(1, 15), 585);
        x.shift(1, 601);
        Check.due("nearer is later", x.bestTime(1, 120), 615);
        x.set(0, 0);
        Check.due("the same route", x.bestTime(1, 120), 615);
        x.trip(1, 1, 0, 601, 10);
        Check.due("another route stays", x.bestTime(2, 120), 601);
        Check.due("nothing is changed", x.tripOf(1, 3), 601);
    }

    private static void promise26OneMinute() {
        BusBlocks x = new BusBlocks();
        x.trip(0, 0, 1, 600, 10);
        x.trip(0, 1, 0, 614, 10);
        Check.due("one minute later", x.bestTime(1, 1), 615);
        Check.due("one minute earlier", x.bestTime(0, 1), 599);
        x.layover(0, 60);
        x.layover(1, 0);
        x.shift(1, 609);
        Check.due("one minute later, at its arrival", x.bestTime(1, 1), 610);
        x.shift(1, 615);
        Check.due("it is best where it is", x.bestTime(1, 120), 615);
    }

    private static void promise26Edges() {
        BusBlocks x = new BusBlocks();
        x.layover(0, 0);
        x.layover(1, 0);
        x.trip(0, 0, 1, 3, 10);
        x.trip(0, 1, 0, 2, 3);
        Check.due("to 0, not below", x.bestTime(1, 2), 0);
        Check.due("ahead of 0 there is nothing", x.bestTime(1, 120), 0);
        x.shift(0, 1432);
        x.shift(1, 1434);
        x.shift(1, 1439);
        Check.due("at 1439 it needs two, with 1442 it would not; 1429 it is", x.bestTime(1, 120), 1429);
        Check.due("1429 is too far, and 1442 is no time", x.bestTime(1, 9), 1439);
        x.shift(0, 1429);
        x.shift(1, 1436);
        Check.due("at 1439, the last time", x.bestTime(1, 3), 1439);
        BusBlocks round = new BusBlocks();
        round.trip(0, 2, 2, 700, 10);
        round.trip(0, 2, 2, 700, 10);
        Check.due("from a terminal to itself", round.bestTime(0, 20), 685);
        Check.due("from a terminal to itself, too far", round.bestTime(0, 14), 700);
        round.set(2, 1);
        round.fail(1);
        Check.due("lost ones are left out", round.bestTime(0, 20), 700);
    }

    private static void promise26WrongInputs() {
        BusBlocks x = new BusBlocks();
        x.trip(0, 0, 1, 600, 10);
        x.trip(0, 0, 1, 600, 10);
        x.fail(1);
        Check.noSuch("bestTime(2, -1)", () -> x.bestTime(2, -1));
        Check.noSuch("bestTime(-1, 0)", () -> x.bestTime(-1, 0));
        Check.badArgument("bestTime(1, -1)", () -> x.bestTime(1, -1));
        Check.badArgument("bestTime(1, 121)", () -> x.bestTime(1, 121));
        Check.badArgument("bestTime(0, 121)", () -> x.bestTime(0, 121));
        Check.badState("bestTime(1, 120)", () -> x.bestTime(1, 120));
        Check.due("bestTime(0, 120)", x.bestTime(0, 120), 600);
    }
}
