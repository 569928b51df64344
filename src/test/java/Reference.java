import java.util.ArrayDeque;
import java.util.ArrayList;
import java.util.Collections;
import java.util.Comparator;
import java.util.List;

/**
 * The document once more, told as plainly as the Java library lets it be, to compare the class with: blocks are
 * lists of trips, deficits are looked at minute by minute, texts are tried against a regular expression.
 */
final class Reference {
    private static final String JOURNEY = "[0-3][0-3][0-3]@(0|[1-9][0-9]{0,2}|1[0-3][0-9][0-9]|14[0-3][0-9])"
        + "\\+([1-9][0-9]?|1[0-9][0-9]|2[0-3][0-9]|240)";
    private static final String TIMETABLE = JOURNEY + "(;" + JOURNEY + ")*";
    private static final String[] ENDS = {"", "1", "+1", "0+1", "@0+1", "0@0+1", "00@0+1", "000@0+1"};
    private static final int[][] RANGES = {{0, 1}, {60, 900}, {0, 9}, {0, 240}};

    private static final class Trip implements Cloneable {
        int number;
        int route;
        int from;
        int to;
        int departure;
        int length;
        boolean lost;

        int arrival() {
            return departure + length;
        }

        Trip copy() {
            try {
                return (Trip) clone();
            } catch (CloneNotSupportedException never) {
                throw new AssertionError(never);
            }
        }
    }

    private static final class State {
        final List<Trip> trips = new ArrayList<>();
        final List<List<Integer>> blocks = new ArrayList<>();
        final int[] layovers = {5, 5, 5, 5};
        final boolean[] reliefs = {true, true, false, false};
        final int[] settings = {1, 480, 1, 30};
        int used;
        int failures;
        int refused;

        State copy() {
            State other = new State();
            for (Trip trip : trips) {
                other.trips.add(trip.copy());
            }
            for (List<Integer> block : blocks) {
                other.blocks.add(new ArrayList<>(block));
            }
            System.arraycopy(layovers, 0, other.layovers, 0, 4);
            System.arraycopy(reliefs, 0, other.reliefs, 0, 4);
            System.arraycopy(settings, 0, other.settings, 0, 4);
            other.used = used;
            other.failures = failures;
            other.refused = refused;
            return other;
        }
    }

    private State now = new State();
    private final State[] slots = new State[2];
    private final ArrayDeque<State> saved = new ArrayDeque<>();
    private String buffer = "";

    private void save() {
        saved.addLast(now.copy());
        if (saved.size() > 6) {
            saved.removeFirst();
        }
    }

    private static void index(boolean right) {
        if (!right) {
            throw new IndexOutOfBoundsException();
        }
    }

    private static void argument(boolean right) {
        if (!right) {
            throw new IllegalArgumentException();
        }
    }

    private static void state(boolean right) {
        if (!right) {
            throw new IllegalStateException();
        }
    }

    private static boolean in(int value, int least, int most) {
        return least <= value && value <= most;
    }

    private Trip tripAt(int trip) {
        index(in(trip, 0, now.trips.size() - 1));
        return now.trips.get(trip);
    }

    private static List<Integer> blockWith(State s, int trip) {
        for (List<Integer> block : s.blocks) {
            if (block.contains(trip)) {
                return block;
            }
        }
        return null;
    }

    private static void tidy(State s) {
        s.blocks.removeIf(List::isEmpty);
        s.blocks.sort(Comparator.comparing(block -> block.get(0)));
    }

    /** Parts the block of a trip ahead of the place told: 0 ahead of the trip, 1 behind it. */
    private static void cut(State s, int trip, int behind) {
        List<Integer> block = blockWith(s, trip);
        int place = block.indexOf(trip) + behind;
        List<Integer> rest = new ArrayList<>(block.subList(place, block.size()));
        block.subList(place, block.size()).clear();
        s.blocks.add(rest);
        tidy(s);
    }

    private static int beside(State s, int trip, int step) {
        List<Integer> block = blockWith(s, trip);
        int place = block == null ? -1 : block.indexOf(trip) + step;
        return block == null || place < 0 || place >= block.size() ? -1 : block.get(place);
    }

    int layover(int terminal, int minutes) {
        index(in(terminal, 0, 3));
        argument(in(minutes, 0, 60));
        save();
        int before = now.layovers[terminal];
        now.layovers[terminal] = minutes;
        return before;
    }

    int relief(int terminal) {
        index(in(terminal, 0, 3));
        save();
        now.reliefs[terminal] = !now.reliefs[terminal];
        return now.reliefs[terminal] ? 1 : 0;
    }

    private static Trip made(State s, int route, int from, int to, int departure, int length) {
        Trip trip = new Trip();
        trip.number = s.trips.size();
        trip.route = route;
        trip.from = from;
        trip.to = to;
        trip.departure = departure;
        trip.length = length;
        return trip;
    }

    private static void enter(State s, Trip trip) {
        s.trips.add(trip);
        s.blocks.add(new ArrayList<>(List.of(trip.number)));
        tidy(s);
    }

    private static void journey(int route, int from, int to, int departure, int length) {
        argument(in(route, 0, 3) && in(from, 0, 3) && in(to, 0, 3) && in(departure, 0, 1439) && in(length, 1, 240));
    }

    int trip(int route, int from, int to, int departure, int length) {
        journey(route, from, to, departure, length);
        state(now.trips.size() < 20);
        save();
        enter(now, made(now, route, from, to, departure, length));
        return now.trips.size() - 1;
    }

    int shift(int trip, int departure) {
        Trip moved = tripAt(trip);
        argument(in(departure, 0, 1439));
        state(!moved.lost);
        save();
        Trip here = now.trips.get(trip);
        cut(now, trip, 0);
        cut(now, trip, 1);
        int before = here.departure;
        here.departure = departure;
        return before;
    }

    int set(int setting, int value) {
        index(in(setting, 0, 3));
        argument(in(value, RANGES[setting][0], RANGES[setting][1]));
        save();
        int before = now.settings[setting];
        now.settings[setting] = value;
        return before;
    }

    private static int reason(State s, int second, int first) {
        Trip a = s.trips.get(first);
        Trip b = s.trips.get(second);
        if (a.lost || b.lost) {
            return 1;
        } else if (beside(s, first, 1) != -1 || beside(s, second, -1) != -1) {
            return 2;
        } else if (b.from != a.to) {
            return 3;
        } else if (b.departure < a.arrival() + s.layovers[a.to]) {
            return 4;
        }
        return s.settings[0] == 0 && a.route != b.route ? 5 : 0;
    }

    private static void join(State s, int trip, int after) {
        List<Integer> ahead = blockWith(s, after);
        List<Integer> behind = blockWith(s, trip);
        ahead.addAll(behind);
        behind.clear();
        tidy(s);
    }

    int follow(int trip, int after) {
        tripAt(trip);
        tripAt(after);
        save();
        int reason = reason(now, trip, after);
        if (reason == 0) {
            join(now, trip, after);
        } else {
            now.refused++;
        }
        return reason;
    }

    int part(int trip) {
        tripAt(trip);
        int next = beside(now, trip, 1);
        state(next != -1);
        save();
        cut(now, trip, 1);
        return next;
    }

    private static void blockAll(State s) {
        s.blocks.clear();
        List<Trip> order = new ArrayList<>(s.trips);
        order.removeIf(trip -> trip.lost);
        for (Trip trip : order) {
            s.blocks.add(new ArrayList<>(List.of(trip.number)));
        }
        order.sort(Comparator.comparing((Trip trip) -> trip.departure).thenComparing(trip -> trip.number));
        List<Trip> taken = new ArrayList<>();
        for (Trip trip : order) {
            List<Trip> waiting = new ArrayList<>(taken);
            waiting.removeIf(first -> reason(s, trip.number, first.number) != 0);
            if (!waiting.isEmpty()) {
                join(s, trip.number, Collections.min(waiting,
                    Comparator.comparing(Trip::arrival).thenComparing(first -> first.number)).number);
            }
            taken.add(trip);
        }
        tidy(s);
    }

    int blockAll() {
        save();
        blockAll(now);
        return now.blocks.size();
    }

    private static int fail(State s, int trip) {
        s.failures++;
        cut(s, trip, 0);
        List<Integer> rest = blockWith(s, trip);
        List<Integer> lost = new ArrayList<>();
        boolean spare = s.settings[2] - s.used > 0;
        for (int each : rest) {
            if (!spare || s.trips.get(each).departure < s.trips.get(trip).departure + s.settings[3]) {
                lost.add(each);
            }
        }
        for (int each : lost) {
            s.trips.get(each).lost = true;
        }
        rest.removeAll(lost);
        s.used += spare ? 1 : 0;
        tidy(s);
        return lost.size();
    }

    int fail(int trip) {
        state(!tripAt(trip).lost);
        save();
        return fail(now, trip);
    }

    int append(int code) {
        argument(in(code, 33, 126));
        state(buffer.length() < 60);
        buffer = buffer + (char) code;
        return buffer.length();
    }

    int clearBuffer() {
        int before = buffer.length();
        buffer = "";
        return before;
    }

    private static boolean begins(String text) {
        for (String end : ENDS) {
            if ((text + end).matches(TIMETABLE)) {
                return true;
            }
        }
        return false;
    }

    int firstError() {
        for (int index = 0; index < buffer.length(); index++) {
            if (!begins(buffer.substring(0, index + 1))) {
                return index;
            }
        }
        return buffer.length();
    }

    int load() {
        argument(buffer.matches(TIMETABLE));
        String[] journeys = buffer.split(";");
        state(now.trips.size() + journeys.length <= 20);
        save();
        for (String each : journeys) {
            String[] times = each.substring(4).split("\\+");
            enter(now, made(now, each.charAt(0) - '0', each.charAt(1) - '0', each.charAt(2) - '0',
                Integer.parseInt(times[0]), Integer.parseInt(times[1])));
        }
        buffer = "";
        return now.trips.size();
    }

    int keep(int slot) {
        argument(in(slot, 0, 1));
        slots[slot] = now.copy();
        return now.trips.size();
    }

    int goBack(int slot) {
        argument(in(slot, 0, 1));
        state(slots[slot] != null);
        save();
        now = slots[slot].copy();
        return now.trips.size();
    }

    int undo() {
        state(!saved.isEmpty());
        now = saved.removeLast();
        return saved.size();
    }

    /** The deficit of a terminal, of one route or (-1) of all; looked at whenever a trip goes, where alone it rises. */
    private static int deficit(State s, int terminal, int route) {
        int most = 0;
        for (Trip when : s.trips) {
            int level = 0;
            for (Trip trip : s.trips) {
                if (!trip.lost && (route == -1 || trip.route == route)) {
                    level += trip.from == terminal && trip.departure <= when.departure ? 1 : 0;
                    level -= trip.to == terminal && trip.arrival() + s.layovers[terminal] <= when.departure ? 1 : 0;
                }
            }
            most = Math.max(most, level);
        }
        return most;
    }

    private static int deficit(State s, int terminal) {
        int sum = 0;
        for (int route = 0; route < 4; route++) {
            sum += deficit(s, terminal, route);
        }
        return s.settings[0] == 1 ? deficit(s, terminal, -1) : sum;
    }

    private static int buses(State s) {
        return deficit(s, 0) + deficit(s, 1) + deficit(s, 2) + deficit(s, 3);
    }

    int terminalOf(int terminal, int what) {
        index(in(terminal, 0, 3));
        argument(in(what, 0, 4));
        if (what == 4) {
            return deficit(now, terminal);
        }
        int from = 0;
        int to = 0;
        for (Trip trip : now.trips) {
            from += !trip.lost && trip.from == terminal ? 1 : 0;
            to += !trip.lost && trip.to == terminal ? 1 : 0;
        }
        return List.of(now.layovers[terminal], now.reliefs[terminal] ? 1 : 0, from, to).get(what);
    }

    int tripOf(int trip, int what) {
        Trip t = tripAt(trip);
        argument(in(what, 0, 8));
        return List.of(t.route, t.from, t.to, t.departure, t.arrival(), beside(now, trip, -1), beside(now, trip, 1),
            t.lost ? -1 : now.blocks.indexOf(blockWith(now, trip)), t.lost ? 1 : 0).get(what);
    }

    private static int span(State s, List<Integer> trips) {
        return s.trips.get(trips.get(trips.size() - 1)).arrival() - s.trips.get(trips.get(0)).departure;
    }

    private static int driven(State s, List<Integer> trips) {
        int sum = 0;
        for (int trip : trips) {
            sum += s.trips.get(trip).length;
        }
        return sum;
    }

    /** The duties of a block, each as long as it can be; null if it cannot be cut. */
    private static List<List<Integer>> duties(State s, List<Integer> block) {
        List<List<Integer>> found = new ArrayList<>();
        int start = 0;
        while (start < block.size()) {
            int end = block.size();
            while (end > start && !isDuty(s, block, start, end)) {
                end--;
            }
            if (end == start) {
                return null;
            }
            found.add(block.subList(start, end));
            start = end;
        }
        return found;
    }

    private static boolean isDuty(State s, List<Integer> block, int start, int end) {
        return span(s, block.subList(start, end)) <= s.settings[1]
            && (end == block.size() || s.reliefs[s.trips.get(block.get(end - 1)).to]);
    }

    private static int fewest(State s, List<Integer> block) {
        int[] least = new int[block.size() + 1];
        for (int start = block.size() - 1; start >= 0; start--) {
            least[start] = 1000;
            for (int end = start + 1; end <= block.size(); end++) {
                if (isDuty(s, block, start, end)) {
                    least[start] = Math.min(least[start], 1 + least[end]);
                }
            }
        }
        return least[0] >= 1000 ? -1 : least[0];
    }

    int blockOf(int block, int what) {
        index(in(block, 0, now.blocks.size() - 1));
        argument(in(what, 0, 6));
        List<Integer> b = now.blocks.get(block);
        int changes = 0;
        for (int place = 1; place < b.size(); place++) {
            changes += now.trips.get(b.get(place)).route != now.trips.get(b.get(place - 1)).route ? 1 : 0;
        }
        List<List<Integer>> duties = duties(now, b);
        return List.of(b.get(0), b.size(), span(now, b), span(now, b) - driven(now, b), changes,
            duties == null ? -1 : duties.size(), fewest(now, b)).get(what);
    }

    int duty(int block, int rank, int what) {
        index(in(block, 0, now.blocks.size() - 1));
        argument(rank >= 0 && in(what, 0, 2));
        List<List<Integer>> duties = duties(now, now.blocks.get(block));
        if (duties == null || rank >= duties.size()) {
            return -1;
        }
        List<Integer> duty = duties.get(rank);
        return List.of(duty.get(0), duty.get(duty.size() - 1), span(now, duty)).get(what);
    }

    int count(int what) {
        argument(in(what, 0, 10));
        switch (what) {
            case 0: return now.trips.size();
            case 1: return (int) now.trips.stream().filter(trip -> !trip.lost).count();
            case 2: return now.blocks.size();
            case 3:
                State trial = now.copy();
                blockAll(trial);
                return trial.blocks.size();
            case 4: return buses(now);
            case 5: return Math.max(0, now.settings[2] - now.used);
            case 6: return now.failures;
            case 7: return now.refused;
            case 8: return mostUnderWay();
            case 9: return allDuties();
            default: return saved.size();
        }
    }

    private int mostUnderWay() {
        int most = 0;
        for (int time = 0; time < 1440; time++) {
            int found = 0;
            for (Trip trip : now.trips) {
                found += !trip.lost && trip.departure <= time && time < trip.arrival() ? 1 : 0;
            }
            most = Math.max(most, found);
        }
        return most;
    }

    private int allDuties() {
        int sum = 0;
        for (List<Integer> block : now.blocks) {
            int found = fewest(now, block);
            if (found == -1) {
                return -1;
            }
            sum += found;
        }
        return sum;
    }

    int setting(int setting) {
        index(in(setting, 0, 3));
        return now.settings[setting];
    }

    int whyNot(int trip, int after) {
        tripAt(trip);
        tripAt(after);
        return reason(now, trip, after);
    }

    int ifTrip(int route, int from, int to, int departure, int length) {
        journey(route, from, to, departure, length);
        State trial = now.copy();
        enter(trial, made(trial, route, from, to, departure, length));
        return buses(trial);
    }

    int bestTime(int trip, int by) {
        Trip own = tripAt(trip);
        argument(in(by, 0, 120));
        state(!own.lost);
        State trial = now.copy();
        int best = -1;
        int least = 1000;
        for (int time = Math.max(0, own.departure - by); time <= Math.min(1439, own.departure + by); time++) {
            trial.trips.get(trip).departure = time;
            int needed = buses(trial);
            boolean nearer = Math.abs(time - own.departure) < Math.abs(best - own.departure);
            if (needed < least || needed == least && nearer) {
                best = time;
                least = needed;
            }
        }
        return best;
    }

    int ifFailed(int trip) {
        state(!tripAt(trip).lost);
        return fail(now.copy(), trip);
    }

    double drivenShare() {
        double driven = 0;
        double whole = 0;
        for (List<Integer> block : now.blocks) {
            driven += driven(now, block);
            whole += span(now, block);
        }
        return now.blocks.isEmpty() ? 1.0 : driven / whole;
    }

    long digest() {
        long hash = 3457;
        for (int what = 0; what <= 10; what++) {
            hash = 31 * hash + count(what);
        }
        for (int value : now.settings) {
            hash = 31 * hash + value;
        }
        for (int place = 0; place < 20; place++) {
            hash = 31 * hash + terminalOf(place / 5, place % 5);
        }
        for (Trip trip : now.trips) {
            for (int what = 0; what <= 8; what++) {
                hash = 31 * hash + tripOf(trip.number, what);
            }
            if (!trip.lost) {
                hash = 31 * (31 * hash + bestTime(trip.number, 10)) + ifFailed(trip.number);
            }
        }
        for (int block = 0; block < now.blocks.size(); block++) {
            for (int what = 0; what <= 6; what++) {
                hash = 31 * hash + blockOf(block, what);
            }
            for (int place = 0; place < 9; place++) {
                hash = 31 * hash + duty(block, place / 3, place % 3);
            }
        }
        hash = 31 * hash + ifTrip(0, 0, 1, 600, 30);
        hash = 31 * hash + Double.doubleToLongBits(drivenShare());
        for (State slot : slots) {
            hash = 31 * hash + (slot == null ? 0 : 1);
        }
        hash = 31 * hash + buffer.length();
        for (char sign : buffer.toCharArray()) {
            hash = 31 * hash + sign;
        }
        return hash;
    }
}
