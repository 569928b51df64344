/** Timetables as texts: promises 11 to 14. */
public final class TextsTest {
    private static final String[] WHOLE = {
        "000@0+1", "333@1439+240", "123@1+9", "012@12+10", "000@999+99", "000@1000+100", "000@1399+199", "000@1400+200",
        "000@1439+239", "000@143+24", "000@0+1;000@0+1", "111@60+60;222@720+30;333@1+1", "000@9+2;100@90+20;200@900+3"};

    public static void main(String[] args) {
        promise11();
        promise12();
        promise13();
        promise13OneSignMore();
        promise14();
        promise14Refused();
        promise14Undo();
        Check.finish();
    }

    private static void promise11() {
        BusBlocks x = new BusBlocks();
        Check.due("append(33)", x.append(33), 1);
        Check.due("append(126)", x.append(126), 2);
        Check.refusedBy(x, "append(32)", () -> x.append(32), "IllegalArgumentException");
        Check.refusedBy(x, "append(127)", () -> x.append(127), "IllegalArgumentException");
        Check.refusedBy(x, "append(-1)", () -> x.append(-1), "IllegalArgumentException");
        for (int length = 3; length <= 60; length++) {
            Check.due("append(48)", x.append(48), length);
        }
        Check.refusedBy(x, "append(48) to 60", () -> x.append(48), "IllegalStateException");
        Check.refusedBy(x, "append(32) to 60", () -> x.append(32), "IllegalArgumentException");
        Check.due("nothing is saved", x.count(10), 0);
    }

    private static void promise12() {
        BusBlocks x = new BusBlocks();
        Check.due("clearBuffer()", x.clearBuffer(), 0);
        long empty = x.digest();
        Check.type(x, "000@7+7;");
        Check.due("clearBuffer()", x.clearBuffer(), 8);
        Check.due("clearBuffer()", x.clearBuffer(), 0);
        Check.due("digest()", x.digest(), empty);
        Check.due("nothing is saved", x.count(10), 0);
    }

    private static void promise13() {
        Check.due("an empty buffer", new BusBlocks().firstError(), 0);
        for (String text : WHOLE) {
            BusBlocks x = new BusBlocks();
            for (int length = 0; length <= text.length(); length++) {
                Check.type(x, text.substring(0, length));
                Check.due("firstError() of " + text.substring(0, length), x.firstError(), length);
            }
            Check.type(x, text + ";");
            Check.due("firstError() of " + text + ";", x.firstError(), text.length() + 1);
            Check.due("the buffer stays", x.clearBuffer(), text.length() + 1);
        }
    }

    /** A sign behind a text that begins well, and whether it may stand there. */
    private static void promise13OneSignMore() {
        String[][] starts = {
            {"", "0123"}, {"1", "0123"}, {"12", "0123"}, {"123", "@"}, {"123@", "0123456789"}, {"123@0", "+"},
            {"123@1", "0123456789+"}, {"123@9", "0123456789+"}, {"123@14", "0123456789+"}, {"123@143", "0123456789+"},
            {"123@144", "+"}, {"123@142", "0123456789+"}, {"123@200", "+"}, {"123@1439", "+"}, {"123@1000", "+"},
            {"123@100", "0123456789+"}, {"123@5+", "123456789"}, {"123@5+1", "0123456789;"}, {"123@5+24", "0;"},
            {"123@5+23", "0123456789;"}, {"123@5+25", ";"}, {"123@5+9", "0123456789;"}, {"123@5+99", ";"},
            {"123@5+240", ";"}, {"123@5+199", ";"}, {"123@5+6;", "0123"}, {"123@5+6;0", "0123"}, {"000@0+1;123@5+24", "0;"}};
        for (String[] start : starts) {
            for (int code = 33; code <= 126; code++) {
                BusBlocks x = new BusBlocks();
                Check.type(x, start[0]);
                x.append(code);
                boolean fits = start[1].indexOf(code) >= 0;
                Check.due("firstError() of " + start[0] + (char) code, x.firstError(), start[0].length() + (fits ? 1 : 0));
                x.append('0');
                if (!fits) {
                    Check.due("the first error stays", x.firstError(), start[0].length());
                }
            }
        }
    }

    private static void promise14() {
        BusBlocks x = new BusBlocks();
        Check.type(x, "012@1439+240;333@0+1;100@60+9");
        Check.due("load()", x.load(), 3);
        Check.due("the buffer is cleared", x.clearBuffer(), 0);
        int[][] due = {{0, 1, 2, 1439, 1679}, {3, 3, 3, 0, 1}, {1, 0, 0, 60, 69}};
        for (int trip = 0; trip < 3; trip++) {
            for (int what = 0; what <= 4; what++) {
                Check.due("tripOf(" + trip + ", " + what + ")", x.tripOf(trip, what), due[trip][what]);
            }
            Check.due("a block of its own", x.tripOf(trip, 7), trip);
        }
        Check.due("saved as one call", x.count(10), 1);
        for (String text : WHOLE) {
            BusBlocks y = new BusBlocks();
            Check.type(y, text);
            Check.due("load() of " + text, y.load(), text.split(";").length);
        }
        BusBlocks full = new BusBlocks();
        Check.type(full, "000@0+1;000@0+1;000@0+1;000@0+1;000@0+1;000@0+1;000@1439+30");
        Check.due("60 signs", full.load(), 7);
        Check.due("the last one", full.tripOf(6, 4), 1469);
    }

    private static void promise14Refused() {
        String[] wrong = {"", "0", "000", "000@", "000@0", "000@0+", "000@0+0", "000@0+1;", "000@00+1", "000@1440+1",
            "000@0+241", "000@0+01", "400@0+1", "040@0+1", "004@0+1", "000@0+1;;000@0+1", ";000@0+1", "000@0+1,000@0+1"};
        BusBlocks x = new BusBlocks();
        for (String text : wrong) {
            Check.type(x, text);
            Check.refusedBy(x, "load() of " + text, x::load, "IllegalArgumentException");
            Check.due("the buffer stays", x.clearBuffer(), text.length());
        }
        for (int trip = 0; trip < 18; trip++) {
            x.trip(0, 0, 0, 0, 1);
        }
        Check.type(x, "000@0+1;000@0+1;000@0+1");
        Check.refusedBy(x, "load() of three more than 18", x::load, "IllegalStateException");
        Check.type(x, "000@0+1;000@0+1;000@0+1;");
        Check.refusedBy(x, "load() of no timetable", x::load, "IllegalArgumentException");
        Check.type(x, "000@0+1;000@0+1");
        Check.due("load() of two more than 18", x.load(), 20);
        Check.type(x, "000@0+1");
        Check.refusedBy(x, "load() of one more than 20", x::load, "IllegalStateException");
    }

    private static void promise14Undo() {
        BusBlocks x = new BusBlocks();
        x.trip(0, 0, 0, 0, 1);
        Check.type(x, "000@0+1;000@0+1");
        Check.due("load()", x.load(), 3);
        Check.type(x, "11");
        Check.due("undo()", x.undo(), 1);
        Check.due("trips", x.count(0), 1);
        Check.due("the buffer is not undone", x.clearBuffer(), 2);
    }
}
