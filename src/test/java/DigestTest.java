/** The hash of the whole state: promise 29. */
public final class DigestTest {
    public static void main(String[] args) {
        BusBlocks x = new BusBlocks();
        same(x, "", 0, 0);
        Check.due("digest() changes nothing", x.count(10), 0);
        x.append(';');
        same(x, ";", 0, 0);
        Check.type(x, "000@77+7;x");
        same(x, "000@77+7;x", 0, 0);
        x.clearBuffer();
        x.keep(1);
        same(x, "", 0, 1);
        busy(x);
        same(x, "", 0, 1);
        x.keep(0);
        same(x, "", 1, 1);
        shares();
        oneTripMore();
        tenMinutes();
        Check.finish();
    }

    private static void busy(BusBlocks x) {
        for (int trip = 0; trip < 18; trip++) {
            x.trip(trip % 3, trip % 2, (trip + 1) % 2, 300 + 41 * trip, 25 + trip);
        }
        x.trip(3, 3, 3, 1439, 240);
        same(x, "", 0, 1);
        x.set(1, 300);
        x.set(0, 0);
        x.blockAll();
        same(x, "", 0, 1);
        x.set(0, 1);
        x.blockAll();
        same(x, "", 0, 1);
        x.fail(3);
        x.follow(0, 0);
        same(x, "", 0, 1);
        x.set(1, 60);
        same(x, "", 0, 1);
        x.undo();
    }

    /** Shares of many sizes, so that every bit of drivenShare counts. */
    private static void shares() {
        for (int length = 1; length <= 240; length += 7) {
            BusBlocks x = new BusBlocks();
            x.trip(0, 0, 0, 0, length);
            x.trip(0, 0, 0, 300 + 4 * length, 1);
            Check.chain(x, 0, 1);
            Check.dueShare("drivenShare()", x.drivenShare(), (length + 1.0) / (301.0 + 4 * length));
            same(x, "", 0, 0);
        }
        BusBlocks x = new BusBlocks();
        x.trip(0, 0, 0, 0, 1);
        x.trip(0, 0, 0, 1439, 1);
        Check.chain(x, 0, 1);
        same(x, "", 0, 0);
    }

    /** States in which each argument of ifTrip 0, 0, 1, 600, 30 counts. */
    private static void oneTripMore() {
        BusBlocks x = new BusBlocks();
        x.set(0, 0);
        x.trip(0, 1, 0, 500, 95);
        Check.due("ifTrip", x.ifTrip(0, 0, 1, 600, 30), 1);
        same(x, "", 0, 0);
        x.trip(0, 1, 2, 635, 95);
        Check.due("ifTrip", x.ifTrip(0, 0, 1, 600, 30), 1);
        same(x, "", 0, 0);
        x.shift(0, 501);
        Check.due("ifTrip", x.ifTrip(0, 0, 1, 600, 30), 2);
        same(x, "", 0, 0);
    }

    private static void tenMinutes() {
        for (int away = 8; away <= 12; away++) {
            BusBlocks x = new BusBlocks();
            x.trip(0, 0, 1, 600, 10);
            x.trip(0, 1, 0, 615 - away, 10);
            Check.due("bestTime", x.bestTime(1, 10), away > 10 ? 615 - away : 615);
            same(x, "", 0, 0);
        }
    }

    private static void same(BusBlocks x, String buffer, int slot0, int slot1) {
        Check.due("digest()", x.digest(), due(x, buffer, slot0, slot1));
    }

    static long due(BusBlocks x, String buffer, int... slots) {
        long hash = 3457;
        for (int what = 0; what <= 10; what++) {
            hash = 31 * hash + x.count(what);
        }
        for (int setting = 0; setting <= 3; setting++) {
            hash = 31 * hash + x.setting(setting);
        }
        for (int terminal = 0; terminal <= 3; terminal++) {
            for (int what = 0; what <= 4; what++) {
                hash = 31 * hash + x.terminalOf(terminal, what);
            }
        }
        for (int trip = 0; trip < x.count(0); trip++) {
            for (int what = 0; what <= 8; what++) {
                hash = 31 * hash + x.tripOf(trip, what);
            }
            if (x.tripOf(trip, 8) == 0) {
                hash = 31 * hash + x.bestTime(trip, 10);
                hash = 31 * hash + x.ifFailed(trip);
            }
        }
        for (int block = 0; block < x.count(2); block++) {
            for (int what = 0; what <= 6; what++) {
                hash = 31 * hash + x.blockOf(block, what);
            }
            for (int place = 0; place < 9; place++) {
                hash = 31 * hash + x.duty(block, place / 3, place % 3);
            }
        }
        hash = 31 * hash + x.ifTrip(0, 0, 1, 600, 30);
        hash = 31 * hash + Double.doubleToLongBits(x.drivenShare());
        for (int slot : slots) {
            hash = 31 * hash + slot;
        }
        hash = 31 * hash + buffer.length();
        for (char sign : buffer.toCharArray()) {
            hash = 31 * hash + sign;
        }
        return hash;
    }
}
