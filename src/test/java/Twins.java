import java.util.Arrays;

/**
 * Makes objects with the same past, asks one of them, and compares all that can be seen of it with what is seen of the
 * other one: the state now (with the spare buses used and the buffer), the saved states, and the snapshots. A digest
 * alone would not tell of the saved states and of the snapshots more than how many there are.
 */
final class Twins {
    interface Past {
        void happensTo(BusBlocks x);
    }

    interface Ask {
        long answer(BusBlocks x);
    }

    interface AskWith {
        long answer(BusBlocks x, int value);
    }

    private interface View {
        String of(BusBlocks x);
    }

    static final String INDEX = "IndexOutOfBoundsException";
    static final String ARGUMENT = "IllegalArgumentException";
    static final String STATE = "IllegalStateException";

    private static final View[] VIEWS = {Twins::present, Twins::savedStates, Twins::snapshots};

    private Twins() {
    }

    static BusBlocks after(Past past) {
        BusBlocks x = new BusBlocks();
        past.happensTo(x);
        return x;
    }

    /** The call throws just this, and nothing has changed behind it. */
    static void refuses(String text, Past past, Ask call, String due) {
        for (View view : VIEWS) {
            BusBlocks x = after(past);
            Check.dueText(text, outcome(x, call), due);
            Check.dueText(text + ": what is seen behind it", view.of(x), view.of(after(past)));
        }
    }

    /** The call answers just this, and nothing has changed behind it. */
    static void looks(String text, Past past, Ask call, long due) {
        for (View view : VIEWS) {
            BusBlocks x = after(past);
            Check.dueText(text, outcome(x, call), Long.toString(due));
            Check.dueText(text + ": what is seen behind it", view.of(x), view.of(after(past)));
        }
    }

    /** The call answers just this and saves one state, and undo() takes all of it back; the past leaves room for one. */
    static void undoable(String text, Past past, Ask call, long due) {
        for (View view : VIEWS) {
            BusBlocks x = after(past);
            int saved = x.count(10);
            Check.dueText(text, outcome(x, call), Long.toString(due));
            Check.due(text + ": saved states", x.count(10), saved + 1);
            Check.due(text + ": undo()", x.undo(), saved);
            Check.dueText(text + ": what is seen behind undo()", view.of(x), view.of(after(past)));
        }
    }

    /** Both sides of a range: its ends are taken; the numbers beside it, and those far from it, are refused. */
    static void range(String text, Past past, int least, int most, AskWith call, String due) {
        for (int value : new int[] {least, most}) {
            BusBlocks x = after(past);
            String answer = outcome(x, asked -> call.answer(asked, value));
            Check.due(text + ", " + value + " is taken, but not with " + answer, answer.endsWith("Exception") ? 1 : 0, 0);
        }
        for (int value : new int[] {least - 1, most + 1, Integer.MIN_VALUE, Integer.MAX_VALUE}) {
            refuses(text + ", with " + value, past, asked -> call.answer(asked, value), due);
        }
    }

    static String outcome(BusBlocks x, Ask call) {
        return Check.outcome(() -> call.answer(x));
    }

    /** Blocks of unlike lengths, a lost trip, a spare bus used, a refusal, two unlike snapshots, three saved states, a text. */
    static void busy(BusBlocks x) {
        x.trip(0, 0, 1, 480, 30);
        x.trip(0, 1, 0, 515, 30);
        x.trip(1, 0, 1, 550, 40);
        x.trip(2, 2, 3, 100, 20);
        x.trip(3, 3, 3, 1439, 240);
        x.follow(1, 0);
        x.follow(2, 1);
        x.set(2, 2);
        x.fail(3);
        x.follow(0, 0);
        x.layover(3, 7);
        x.relief(2);
        x.keep(0);
        undoSix(x);
        x.goBack(0);
        x.set(1, 500);
        x.keep(1);
        x.layover(0, 4);
        Check.type(x, "012@5+6;3");
    }

    static void undoSix(BusBlocks x) {
        for (int left = 5; left >= 0; left--) {
            x.undo();
        }
    }

    static final int BUSY_TRIPS = 5;
    static final int BUSY_LOST = 3;
    static final int BUSY_BLOCKS = 2;

    static void twentyTrips(BusBlocks x) {
        for (int trip = 0; trip < 20; trip++) {
            x.trip(trip % 4, 0, 0, 60 * trip, 10);
        }
    }

    /** All trips that are run, their blocks and settings, but not what is counted. */
    static String timetable(BusBlocks x) {
        StringBuilder seen = new StringBuilder();
        for (int trip = 0; trip < x.count(0); trip++) {
            int[] values = new int[9];
            for (int what = 0; what < values.length; what++) {
                values[what] = x.tripOf(trip, what);
            }
            seen.append(Arrays.toString(values));
        }
        for (int place = 0; place < 4; place++) {
            seen.append(x.terminalOf(place, 0)).append(' ').append(x.terminalOf(place, 1)).append(' ');
            seen.append(x.setting(place)).append(' ');
        }
        return seen.append(x.count(5)).append(' ').append(x.count(6)).toString();
    }

    private static String present(BusBlocks x) {
        StringBuilder seen = new StringBuilder().append(x.digest()).append(' ').append(x.firstError());
        x.set(2, 9);
        return seen.append(' ').append(x.count(5)).append(' ').append(x.clearBuffer()).toString();
    }

    private static String savedStates(BusBlocks x) {
        StringBuilder seen = new StringBuilder().append(x.digest());
        for (int undone = 0; undone <= 6; undone++) {
            seen.append(' ').append(Check.outcome(x::undo)).append(' ').append(x.digest());
        }
        return seen.toString();
    }

    private static String snapshots(BusBlocks x) {
        StringBuilder seen = new StringBuilder().append(x.digest());
        for (int slot = 0; slot <= 1; slot++) {
            int place = slot;
            seen.append(' ').append(Check.outcome(() -> x.goBack(place))).append(' ').append(x.digest());
        }
        return seen.toString();
    }
}
