/** The hash of the whole state: promise 29. */
public final class DigestTest {
    public static void main(String[] args) {
        buffersAndSlots();
        busyStates();
        shares();
        oneTripMore();
        tenMinutes();
        Check.finish();
    }

    private static void buffersAndSlots() {
        same(x -> { }, "", 0, 0);
        same(BusBlocks::digest, "", 0, 0);
        same(x -> x.append(';'), ";", 0, 0);
        same(x -> Check.type(x, "000@77+7;x"), "000@77+7;x", 0, 0);
        same(x -> x.keep(1), "", 0, 1);
        same(x -> x.keep(0), "", 1, 0);
        same(x -> {
            Check.type(x, "000@77+7");
            x.keep(0);
            x.clearBuffer();
            x.keep(1);
        }, "", 1, 1);
    }

    private static void nineteenTrips(BusBlocks x) {
        for (int trip = 0; trip < 18; trip++) {
            x.trip(trip % 3, trip % 2, (trip + 1) % 2, 300 + 41 * trip, 25 + trip);
        }
        x.trip(3, 3, 3, 1439, 240);
    }

    private static void blocked(BusBlocks x, int sharing, int hours) {
        nineteenTrips(x);
        x.set(0, sharing);
        x.set(1, hours);
        x.blockAll();
    }

    private static void withFailure(BusBlocks x, int hours) {
        blocked(x, 1, 300);
        x.fail(3);
        x.follow(0, 0);
        x.set(1, hours);
        x.keep(1);
    }

    private static void busyStates() {
        same(DigestTest::nineteenTrips, "", 0, 0);
        same(Twins::twentyTrips, "", 0, 0);
        same(x -> blocked(x, 0, 300), "", 0, 0);
        same(x -> blocked(x, 1, 300), "", 0, 0);
        same(x -> withFailure(x, 300), "", 0, 1);
        same(x -> withFailure(x, 60), "", 0, 1);
        same(Twins::busy, "012@5+6;3", 1, 1);
    }

    /** Shares of many sizes, so that every bit of drivenShare counts. */
    private static void shares() {
        for (int length = 1; length <= 240; length += 7) {
            int first = length;
            Twins.Past past = x -> {
                x.trip(0, 0, 0, 0, first);
                x.trip(0, 0, 0, 300 + 4 * first, 1);
                Check.chain(x, 0, 1);
            };
            Check.dueShare("drivenShare()", Twins.after(past).drivenShare(), (length + 1.0) / (301.0 + 4 * length));
            same(past, "", 0, 0);
        }
        same(x -> {
            x.trip(0, 0, 0, 0, 1);
            x.trip(0, 0, 0, 1439, 1);
            Check.chain(x, 0, 1);
        }, "", 0, 0);
    }

    private static void aboutOneTripMore(int departure, int due) {
        Twins.Past past = x -> {
            x.set(0, 0);
            x.trip(0, 1, 0, departure, 95);
            x.trip(0, 1, 2, 635, 95);
        };
        Check.due("ifTrip", Twins.after(past).ifTrip(0, 0, 1, 600, 30), due);
        same(past, "", 0, 0);
    }

    /** States in which the arguments of ifTrip 0, 0, 1, 600, 30 count. */
    private static void oneTripMore() {
        aboutOneTripMore(500, 1);
        aboutOneTripMore(501, 2);
    }

    private static void tenMinutes() {
        for (int away = 8; away <= 12; away++) {
            int departure = 615 - away;
            Twins.Past past = x -> {
                x.trip(0, 0, 1, 600, 10);
                x.trip(0, 1, 0, departure, 10);
            };
            Check.due("bestTime", Twins.after(past).bestTime(1, 10), away > 10 ? departure : 615);
            same(past, "", 0, 0);
        }
    }

    private static void same(Twins.Past past, String buffer, int slot0, int slot1) {
        Check.due("digest()", Twins.after(past).digest(), due(past, buffer, slot0, slot1));
    }

    /** The hash that is due; each part asks an object of its own, since all would be more than 512 calls of one. */
    static long due(Twins.Past past, String buffer, int... slots) {
        long hash = counts(3457, Twins.after(past));
        hash = trips(hash, Twins.after(past));
        hash = blocks(hash, Twins.after(past));
        BusBlocks x = Twins.after(past);
        hash = 31 * hash + x.ifTrip(0, 0, 1, 600, 30);
        hash = 31 * hash + Double.doubleToLongBits(x.drivenShare());
        for (int slot : slots) {
            hash = 31 * hash + slot;
        }
        hash = 31 * hash + buffer.length();
        for (char sign : buffer.toCharArray()) {
            hash = 31 * hash + sign;
        }
        return hash;
    }

    private static long counts(long start, BusBlocks x) {
        long hash = start;
        for (int what = 0; what <= 10; what++) {
            hash = 31 * hash + x.count(what);
        }
        for (int setting = 0; setting <= 3; setting++) {
            hash = 31 * hash + x.setting(setting);
        }
        for (int place = 0; place < 20; place++) {
            hash = 31 * hash + x.terminalOf(place / 5, place % 5);
        }
        return hash;
    }

    private static long trips(long start, BusBlocks x) {
        long hash = start;
        int trips = x.count(0);
        for (int trip = 0; trip < trips; trip++) {
            for (int what = 0; what <= 8; what++) {
                hash = 31 * hash + x.tripOf(trip, what);
            }
            if (x.tripOf(trip, 8) == 0) {
                hash = 31 * hash + x.bestTime(trip, 10);
                hash = 31 * hash + x.ifFailed(trip);
            }
        }
        return hash;
    }

    private static long blocks(long start, BusBlocks x) {
        long hash = start;
        int blocks = x.count(2);
        for (int block = 0; block < blocks; block++) {
            for (int what = 0; what <= 6; what++) {
                hash = 31 * hash + x.blockOf(block, what);
            }
            for (int place = 0; place < 9; place++) {
                hash = 31 * hash + x.duty(block, place / 3, place % 3);
            }
        }
        return hash;
    }
}
