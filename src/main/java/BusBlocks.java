import java.util.Arrays;

/** Buses that are blocked; README.md tells the calls, the document what each of them promises. */
public final class BusBlocks {
    public static final int NONE = -1;

    private static final int ROUTES = 4;
    private static final int TERMINALS = 4;
    private static final int MOST_TRIPS = 20;
    private static final int LAST_MINUTE = 1439;
    private static final int LONGEST_TRIP = 240;
    private static final int LONGEST_LAYOVER = 60;
    private static final int WIDEST_SEARCH = 120;
    private static final int[] FIRST_LAYOVERS = {5, 5, 5, 5};
    private static final int[] FIRST_RELIEFS = {1, 1, 0, 0};

    private static final int SETTINGS = 4;
    private static final int SHARING = 0;
    private static final int DUTY_HOURS = 1;
    private static final int SPARES = 2;
    private static final int SPARE_WAIT = 3;
    private static final int[] LEAST_VALUES = {0, 60, 0, 0};
    private static final int[] MOST_VALUES = {1, 900, 9, 240};
    private static final int[] FIRST_VALUES = {1, 480, 1, 30};

    private static final int MOST_SAVED = 6;
    private static final int SLOTS = 2;
    private static final int MOST_SIGNS = 60;
    private static final int LAST_COUNT = 10;

    private final Timetable now;
    private final Timetable trial;
    private final Deficits deficits;
    private final Duties duties;
    private final Text buffer;
    private final Shelf saved;
    private final Shelf slots;
    private final int[] kept;
    private int oldest;
    private int savedStates;

    public BusBlocks() {
        Timetable table = new Timetable();
        now = table;
        trial = new Timetable();
        deficits = new Deficits(table);
        duties = new Duties(table);
        buffer = new Text();
        saved = new Shelf(MOST_SAVED);
        slots = new Shelf(SLOTS);
        kept = new int[SLOTS];
        oldest = 0;
        savedStates = 0;
    }

    // ---- terminals, trips

    public int layover(int terminal, int minutes) throws IndexOutOfBoundsException, IllegalArgumentException {
        checkTerminal(terminal);
        checkRange(minutes, 0, LONGEST_LAYOVER);
        save();
        int previous = at(now.layovers, terminal);
        put(now.layovers, terminal, minutes);
        return previous;
    }

    public int relief(int terminal) throws IndexOutOfBoundsException {
        checkTerminal(terminal);
        save();
        int turned = 1 - at(now.reliefs, terminal);
        put(now.reliefs, terminal, turned);
        return turned;
    }

    public int trip(int route, int from, int to, int departure, int length)
            throws IllegalArgumentException, IllegalStateException {
        checkJourney(route, from, to, departure, length);
        if (now.trips >= MOST_TRIPS) {
            throw new IllegalStateException("there are 20 trips");
        }
        save();
        return now.addTrip(route, from, to, departure, length);
    }

    public int shift(int trip, int departure)
            throws IndexOutOfBoundsException, IllegalArgumentException, IllegalStateException {
        checkTrip(trip);
        checkRange(departure, 0, LAST_MINUTE);
        checkRun(trip);
        save();
        int previous = at(now.departures, trip);
        now.cutAhead(trip);
        now.cutBehind(trip);
        put(now.departures, trip, departure);
        return previous;
    }

    public int set(int setting, int value) throws IndexOutOfBoundsException, IllegalArgumentException {
        checkSetting(setting);
        checkRange(value, at(LEAST_VALUES, setting), at(MOST_VALUES, setting));
        save();
        int previous = at(now.settings, setting);
        put(now.settings, setting, value);
        return previous;
    }

    // ---- blocks

    public int follow(int trip, int after) throws IndexOutOfBoundsException {
        checkTrip(trip);
        checkTrip(after);
        save();
        int reason = now.reasonAgainst(trip, after);
        if (reason == 0) {
            now.link(trip, after);
        } else {
            now.refused++;
        }
        return reason;
    }

    public int part(int trip) throws IndexOutOfBoundsException, IllegalStateException {
        checkTrip(trip);
        int next = at(now.behinds, trip);
        if (next == NONE) {
            throw new IllegalStateException("no trip follows it");
        }
        save();
        now.cutBehind(trip);
        return next;
    }

    public int blockAll() {
        save();
        now.blockEverything();
        return now.blocks();
    }

    public int fail(int trip) throws IndexOutOfBoundsException, IllegalStateException {
        checkTrip(trip);
        checkRun(trip);
        save();
        return now.loseBus(trip);
    }

    // ---- texts, snapshots

    public int append(int code) throws IllegalArgumentException, IllegalStateException {
        checkRange(code, 33, 126);
        if (buffer.length >= MOST_SIGNS) {
            throw new IllegalStateException("the buffer has 60 characters");
        }
        return buffer.addSign(code);
    }

    public int clearBuffer() {
        int previous = buffer.length;
        buffer.length = 0;
        return previous;
    }

    public int firstError() {
        return buffer.readToError();
    }

    public int load() throws IllegalArgumentException, IllegalStateException {
        if (!buffer.isWhole()) {
            throw new IllegalArgumentException("the buffer does not tell a timetable");
        }
        if (now.trips + buffer.journeys() > MOST_TRIPS) {
            throw new IllegalStateException("there would be more than 20 trips");
        }
        save();
        buffer.addTo(now);
        buffer.length = 0;
        return now.trips;
    }

    public int keep(int slot) throws IllegalArgumentException {
        checkRange(slot, 0, SLOTS - 1);
        slots.store(slot, now);
        put(kept, slot, 1);
        return now.trips;
    }

    public int goBack(int slot) throws IllegalArgumentException, IllegalStateException {
        checkRange(slot, 0, SLOTS - 1);
        if (at(kept, slot) != 1) {
            throw new IllegalStateException("no snapshot is in the slot");
        }
        save();
        slots.fetch(slot, now);
        return now.trips;
    }

    public int undo() throws IllegalStateException {
        if (savedStates <= 0) {
            throw new IllegalStateException("no state is saved");
        }
        savedStates--;
        saved.fetch((oldest + savedStates) % MOST_SAVED, now);
        return savedStates;
    }

    // ---- looks; nothing is changed

    public int terminalOf(int terminal, int what) throws IndexOutOfBoundsException, IllegalArgumentException {
        checkTerminal(terminal);
        checkRange(what, 0, 4);
        switch (what) {
            case 0: return at(now.layovers, terminal);
            case 1: return at(now.reliefs, terminal);
            case 2: return now.runTripsAt(now.origins, terminal);
            case 3: return now.runTripsAt(now.goals, terminal);
            default:
                deficits.gather(NONE);
                deficits.fewest();
                return deficits.deficitOf(terminal);
        }
    }

    public int tripOf(int trip, int what) throws IndexOutOfBoundsException, IllegalArgumentException {
        checkTrip(trip);
        checkRange(what, 0, 8);
        switch (what) {
            case 0: return at(now.routes, trip);
            case 1: return at(now.origins, trip);
            case 2: return at(now.goals, trip);
            case 3: return at(now.departures, trip);
            case 4: return now.arrivalOf(trip);
            case 5: return at(now.befores, trip);
            case 6: return at(now.behinds, trip);
            case 7: return now.blockWith(trip);
            default: return now.isRun(trip) ? 0 : 1;
        }
    }

    public int blockOf(int block, int what) throws IndexOutOfBoundsException, IllegalArgumentException {
        int first = now.headOf(block);
        checkHead(first);
        checkRange(what, 0, 6);
        switch (what) {
            case 0: return first;
            case 1: return now.tripsFrom(first);
            case 2: return now.spanFrom(first);
            case 3: return now.spanFrom(first) - now.drivenFrom(first);
            case 4: return now.routeChangesFrom(first);
            case 5: return duties.fewestForward(first);
            default: return duties.fewestBackward(first);
        }
    }

    public int duty(int block, int rank, int what) throws IndexOutOfBoundsException, IllegalArgumentException {
        int head = now.headOf(block);
        checkHead(head);
        if (rank < 0) {
            throw new IllegalArgumentException("the rank is below 0");
        }
        checkRange(what, 0, 2);
        if (duties.fewestForward(head) <= rank) {
            return NONE;
        }
        int first = duties.firstOfDuty(head, rank);
        int last = duties.lastOfDuty(first);
        switch (what) {
            case 0: return first;
            case 1: return last;
            default: return now.arrivalOf(last) - at(now.departures, first);
        }
    }

    public int count(int what) throws IllegalArgumentException {
        checkRange(what, 0, LAST_COUNT);
        switch (what) {
            case 0: return now.trips;
            case 1: return now.runTrips();
            case 2: return now.blocks();
            case 3:
                trial.copyFrom(now);
                trial.blockEverything();
                return trial.blocks();
            case 4:
                deficits.gather(NONE);
                return deficits.fewest();
            case 5: return now.sparesLeft();
            case 6: return now.failures;
            case 7: return now.refused;
            case 8: return now.mostUnderWay();
            case 9: return duties.fewestOfAll();
            default: return savedStates;
        }
    }

    public int setting(int setting) throws IndexOutOfBoundsException {
        checkSetting(setting);
        return at(now.settings, setting);
    }

    // ---- what would be; nothing is changed

    public int whyNot(int trip, int after) throws IndexOutOfBoundsException {
        checkTrip(trip);
        checkTrip(after);
        return now.reasonAgainst(trip, after);
    }

    public int ifTrip(int route, int from, int to, int departure, int length) throws IllegalArgumentException {
        checkJourney(route, from, to, departure, length);
        deficits.gather(NONE);
        return deficits.fewestWith(route, from, to, departure, length);
    }

    public int bestTime(int trip, int by)
            throws IndexOutOfBoundsException, IllegalArgumentException, IllegalStateException {
        checkTrip(trip);
        checkRange(by, 0, WIDEST_SEARCH);
        checkRun(trip);
        deficits.gather(trip);
        int route = at(now.routes, trip);
        int from = at(now.origins, trip);
        int to = at(now.goals, trip);
        int own = at(now.departures, trip);
        int length = at(now.lengths, trip);
        int best = own;
        int fewest = deficits.fewestWith(route, from, to, own, length);
        // Going outwards, earlier ahead of later, only fewer buses make a better time.
        for (int step = 1; step <= 2 * by; step++) {
            int departure = step % 2 == 1 ? own - (step + 1) / 2 : own + step / 2;
            if (departure >= 0 && departure <= LAST_MINUTE) {
                int buses = deficits.fewestWith(route, from, to, departure, length);
                best = buses < fewest ? departure : best;
                fewest = Math.min(fewest, buses);
            }
        }
        return best;
    }

    public int ifFailed(int trip) throws IndexOutOfBoundsException, IllegalStateException {
        checkTrip(trip);
        checkRun(trip);
        return now.lossesFrom(trip);
    }

    public double drivenShare() {
        int driven = 0;
        int whole = 0;
        for (int trip = 0; trip < now.trips; trip++) {
            if (now.isHead(trip)) {
                driven += now.drivenFrom(trip);
                whole += now.spanFrom(trip);
            }
        }
        return whole > 0 ? (double) driven / (double) whole : 1.0;
    }

    public long digest() {
        long hash = 3457;
        for (int what = 0; what <= LAST_COUNT; what++) {
            hash = 31 * hash + count(what);
        }
        for (int setting = 0; setting < SETTINGS; setting++) {
            hash = 31 * hash + at(now.settings, setting);
        }
        for (int terminal = 0; terminal < TERMINALS; terminal++) {
            for (int what = 0; what <= 4; what++) {
                hash = 31 * hash + terminalOf(terminal, what);
            }
        }
        hash = hashTrips(hash);
        hash = hashBlocks(hash);
        hash = 31 * hash + ifTrip(0, 0, 1, 600, 30);
        hash = 31 * hash + bitsOf(drivenShare());
        for (int slot = 0; slot < SLOTS; slot++) {
            hash = 31 * hash + at(kept, slot);
        }
        return hashBuffer(hash);
    }

    private long hashTrips(long start) {
        long hash = start;
        for (int trip = 0; trip < now.trips; trip++) {
            for (int what = 0; what <= 8; what++) {
                hash = 31 * hash + tripOf(trip, what);
            }
            if (now.isRun(trip)) {
                hash = 31 * hash + bestTime(trip, 10);
                hash = 31 * hash + ifFailed(trip);
            }
        }
        return hash;
    }

    private long hashBlocks(long start) {
        long hash = start;
        int blocks = now.blocks();
        for (int block = 0; block < blocks; block++) {
            for (int what = 0; what <= 6; what++) {
                hash = 31 * hash + blockOf(block, what);
            }
            for (int rank = 0; rank <= 2; rank++) {
                for (int what = 0; what <= 2; what++) {
                    hash = 31 * hash + duty(block, rank, what);
                }
            }
        }
        return hash;
    }

    private long hashBuffer(long start) {
        long hash = 31 * start + buffer.length;
        for (int index = 0; index < buffer.length; index++) {
            hash = 31 * hash + at(buffer.signs, index);
        }
        return hash;
    }

    /**
     * The bits of a share, which is above 0 and at most 1. They are worked out because the language's rule 4
     * leaves no Double.doubleToLongBits; doubling and taking 1 away are exact here.
     */
    private static long bitsOf(double share) {
        double scaled = share;
        long exponent = 1023;
        while (scaled < 1.0 && exponent > 1) {
            scaled = scaled * 2.0;
            exponent--;
        }
        return exponent * 4503599627370496L + (long) ((scaled - 1.0) * 4503599627370496.0);
    }

    private void save() {
        if (savedStates < MOST_SAVED) {
            savedStates++;
        } else {
            oldest = (oldest + 1) % MOST_SAVED;
        }
        saved.store((oldest + savedStates - 1) % MOST_SAVED, now);
    }

    // ---- what the calls look at first

    private static void checkTerminal(int terminal) {
        if (terminal < 0 || terminal >= TERMINALS) {
            throw new IndexOutOfBoundsException("no such terminal");
        }
    }

    private static void checkSetting(int setting) {
        if (setting < 0 || setting >= SETTINGS) {
            throw new IndexOutOfBoundsException("no such setting");
        }
    }

    private void checkTrip(int trip) {
        if (trip < 0 || trip >= now.trips) {
            throw new IndexOutOfBoundsException("no such trip");
        }
    }

    private static void checkHead(int first) {
        if (first == NONE) {
            throw new IndexOutOfBoundsException("no such block");
        }
    }

    private void checkRun(int trip) {
        if (!now.isRun(trip)) {
            throw new IllegalStateException("the trip is lost");
        }
    }

    private static void checkRange(int value, int least, int most) {
        if (value < least || value > most) {
            throw new IllegalArgumentException("an argument is out of range");
        }
    }

    private static void checkJourney(int route, int from, int to, int departure, int length) {
        checkRange(route, 0, ROUTES - 1);
        checkRange(from, 0, TERMINALS - 1);
        checkRange(to, 0, TERMINALS - 1);
        checkRange(departure, 0, LAST_MINUTE);
        checkRange(length, 1, LONGEST_TRIP);
    }

    // ---- rows, whose indexes are tested here for all

    private static int at(int[] row, int index) {
        return index >= 0 && index < row.length ? row[index] : NONE;
    }

    private static void put(int[] row, int index, int value) {
        if (index >= 0 && index < row.length) {
            row[index] = value;
        }
    }

    private static void copy(int[] source, int[] target) {
        System.arraycopy(source, 0, target, 0, Math.min(source.length, target.length));
    }

    /** All that a snapshot holds. Trips are told by their numbers, NONE is no trip. */
    private static final class Timetable {
        private final int[] routes;
        private final int[] origins;
        private final int[] goals;
        private final int[] departures;
        private final int[] lengths;
        private final int[] befores;
        private final int[] behinds;
        private final int[] losts;
        private final int[] layovers;
        private final int[] reliefs;
        private final int[] settings;
        private int trips;
        private int usedSpares;
        private int failures;
        private int refused;

        private Timetable() {
            routes = new int[MOST_TRIPS];
            origins = new int[MOST_TRIPS];
            goals = new int[MOST_TRIPS];
            departures = new int[MOST_TRIPS];
            lengths = new int[MOST_TRIPS];
            befores = new int[MOST_TRIPS];
            behinds = new int[MOST_TRIPS];
            losts = new int[MOST_TRIPS];
            layovers = FIRST_LAYOVERS.clone();
            reliefs = FIRST_RELIEFS.clone();
            settings = FIRST_VALUES.clone();
            trips = 0;
            usedSpares = 0;
            failures = 0;
            refused = 0;
        }

        private void copyFrom(Timetable other) {
            copy(other.routes, routes);
            copy(other.origins, origins);
            copy(other.goals, goals);
            copy(other.departures, departures);
            copy(other.lengths, lengths);
            copy(other.befores, befores);
            copy(other.behinds, behinds);
            copy(other.losts, losts);
            copy(other.layovers, layovers);
            copy(other.reliefs, reliefs);
            copy(other.settings, settings);
            trips = other.trips;
            usedSpares = other.usedSpares;
            failures = other.failures;
            refused = other.refused;
        }

        private int addTrip(int route, int from, int to, int departure, int length) {
            int trip = trips;
            put(routes, trip, route);
            put(origins, trip, from);
            put(goals, trip, to);
            put(departures, trip, departure);
            put(lengths, trip, length);
            put(befores, trip, NONE);
            put(behinds, trip, NONE);
            put(losts, trip, 0);
            trips++;
            return trip;
        }

        private boolean isRun(int trip) {
            return at(losts, trip) == 0;
        }

        private int arrivalOf(int trip) {
            return at(departures, trip) + at(lengths, trip);
        }

        private int readyOf(int trip) {
            return at(departures, trip) + at(lengths, trip) + at(layovers, at(goals, trip));
        }

        private int runTrips() {
            int run = 0;
            for (int trip = 0; trip < trips; trip++) {
                run += isRun(trip) ? 1 : 0;
            }
            return run;
        }

        private int runTripsAt(int[] ends, int terminal) {
            int found = 0;
            for (int trip = 0; trip < trips; trip++) {
                found += isRun(trip) && at(ends, trip) == terminal ? 1 : 0;
            }
            return found;
        }

        private int mostUnderWay() {
            int most = 0;
            for (int trip = 0; trip < trips; trip++) {
                if (isRun(trip)) {
                    most = Math.max(most, underWayAt(at(departures, trip)));
                }
            }
            return most;
        }

        private int underWayAt(int time) {
            int found = 0;
            for (int trip = 0; trip < trips; trip++) {
                found += isRun(trip) && at(departures, trip) <= time && time < arrivalOf(trip) ? 1 : 0;
            }
            return found;
        }

        // ---- what follows what

        private int reasonAgainst(int trip, int after) {
            if (!isRun(trip) || !isRun(after)) {
                return 1;
            }
            if (at(behinds, after) != NONE || at(befores, trip) != NONE) {
                return 2;
            }
            if (at(origins, trip) != at(goals, after)) {
                return 3;
            }
            if (at(departures, trip) < readyOf(after)) {
                return 4;
            }
            return at(settings, SHARING) == 0 && at(routes, trip) != at(routes, after) ? 5 : 0;
        }

        private void link(int trip, int after) {
            put(befores, trip, after);
            put(behinds, after, trip);
        }

        private void cutBehind(int trip) {
            put(befores, at(behinds, trip), NONE);
            put(behinds, trip, NONE);
        }

        private void cutAhead(int trip) {
            put(behinds, at(befores, trip), NONE);
            put(befores, trip, NONE);
        }

        private void blockEverything() {
            for (int trip = 0; trip < trips; trip++) {
                put(befores, trip, NONE);
                put(behinds, trip, NONE);
            }
            int trip = runTripBehind(NONE);
            for (int taken = 0; taken < MOST_TRIPS && trip != NONE; taken++) {
                int after = longestWaiting(trip);
                if (after != NONE) {
                    link(trip, after);
                }
                trip = runTripBehind(trip);
            }
        }

        /** The run trip that comes next by departures, of several the lowest; the first one behind NONE. */
        private int runTripBehind(int last) {
            int least = rankOf(last);
            int next = NONE;
            for (int trip = 0; trip < trips; trip++) {
                boolean later = isRun(trip) && rankOf(trip) > least;
                if (later && (next == NONE || rankOf(trip) < rankOf(next))) {
                    next = trip;
                }
            }
            return next;
        }

        private int rankOf(int trip) {
            return trip == NONE ? NONE : at(departures, trip) * MOST_TRIPS + trip;
        }

        /** The trip that this one should follow. What it can follow went earlier, so that it has been taken. */
        private int longestWaiting(int trip) {
            int longest = NONE;
            for (int after = 0; after < trips; after++) {
                boolean can = reasonAgainst(trip, after) == 0;
                if (can && (longest == NONE || arrivalOf(after) < arrivalOf(longest))) {
                    longest = after;
                }
            }
            return longest;
        }

        // ---- blocks, each told by its first trip

        private boolean isHead(int trip) {
            return at(losts, trip) == 0 && at(befores, trip) == NONE;
        }

        private int headsBelow(int bound) {
            int heads = 0;
            for (int trip = 0; trip < bound; trip++) {
                heads += isHead(trip) ? 1 : 0;
            }
            return heads;
        }

        private int blocks() {
            return headsBelow(trips);
        }

        /** The first trip of a block; NONE if there is no such block. */
        private int headOf(int block) {
            int heads = 0;
            for (int trip = 0; trip < trips; trip++) {
                if (isHead(trip)) {
                    if (heads == block) {
                        return trip;
                    }
                    heads++;
                }
            }
            return NONE;
        }

        private int blockWith(int trip) {
            if (!isRun(trip)) {
                return NONE;
            }
            int head = trip;
            for (int step = 0; step < MOST_TRIPS && at(befores, head) != NONE; step++) {
                head = at(befores, head);
            }
            return headsBelow(head);
        }

        private int endFrom(int first) {
            int last = first;
            for (int step = 0; step < MOST_TRIPS && at(behinds, last) != NONE; step++) {
                last = at(behinds, last);
            }
            return last;
        }

        private int tripsFrom(int first) {
            int found = 0;
            int trip = first;
            while (trip != NONE && found < MOST_TRIPS) {
                found++;
                trip = at(behinds, trip);
            }
            return found;
        }

        private int spanFrom(int first) {
            return arrivalOf(endFrom(first)) - at(departures, first);
        }

        private int drivenFrom(int first) {
            int driven = 0;
            int trip = first;
            for (int step = 0; step < MOST_TRIPS && trip != NONE; step++) {
                driven += at(lengths, trip);
                trip = at(behinds, trip);
            }
            return driven;
        }

        private int routeChangesFrom(int first) {
            int changes = 0;
            int trip = first;
            int next = at(behinds, first);
            for (int step = 0; step < MOST_TRIPS && next != NONE; step++) {
                changes += at(routes, trip) != at(routes, next) ? 1 : 0;
                trip = next;
                next = at(behinds, trip);
            }
            return changes;
        }

        // ---- failures

        private int sparesLeft() {
            return Math.max(0, at(settings, SPARES) - usedSpares);
        }

        /** How many trips are lost, from this one on, if the bus fails ahead of it. */
        private int lossesFrom(int first) {
            boolean noSpare = sparesLeft() == 0;
            int spareReady = at(departures, first) + at(settings, SPARE_WAIT);
            int losses = 0;
            int trip = first;
            while (trip != NONE && losses < MOST_TRIPS && (noSpare || at(departures, trip) < spareReady)) {
                losses++;
                trip = at(behinds, trip);
            }
            return losses;
        }

        private int loseBus(int first) {
            int losses = lossesFrom(first);
            failures++;
            usedSpares += sparesLeft() > 0 ? 1 : 0;
            cutAhead(first);
            int trip = first;
            for (int lost = 0; lost < losses; lost++) {
                int next = at(behinds, trip);
                cutBehind(trip);
                put(losts, trip, 1);
                trip = next;
            }
            return losses;
        }
    }

    /**
     * Counts by terminals (and by routes that do not share) how many buses more have left than were ready.
     * An event is one number: its time, then whether a bus leaves, then where; sorted, a bus is ready ahead
     * of those that leave at the same time.
     */
    private static final class Deficits {
        private static final int KEYS = TERMINALS * ROUTES;
        private static final int LEAVING = KEYS;
        private static final int MINUTE = 2 * KEYS;
        private static final int NO_EVENT = 1000000;

        private final Timetable table;
        private final int[] events;
        private final int[] missing;
        private final int[] mostMissing;
        private int size;
        private int buses;

        private Deficits(Timetable table) {
            this.table = table;
            events = new int[2 * MOST_TRIPS];
            missing = new int[KEYS];
            mostMissing = new int[KEYS];
            size = 0;
            buses = 0;
        }

        /** Takes the events of all trips that are run, but of one (or of none: NONE). */
        private void gather(int leftOut) {
            size = 0;
            for (int trip = 0; trip < table.trips; trip++) {
                if (trip != leftOut && table.isRun(trip)) {
                    int route = at(table.routes, trip);
                    insert(leavingEvent(route, at(table.origins, trip), at(table.departures, trip)));
                    insert(readyEvent(route, at(table.goals, trip), table.arrivalOf(trip)));
                }
            }
        }

        private void insert(int event) {
            int place = size;
            while (place > 0 && at(events, place - 1) > event) {
                put(events, place, at(events, place - 1));
                place--;
            }
            put(events, place, event);
            size++;
        }

        private int leavingEvent(int route, int terminal, int departure) {
            return departure * MINUTE + LEAVING + keyOf(route, terminal);
        }

        private int readyEvent(int route, int terminal, int arrival) {
            return (arrival + at(table.layovers, terminal)) * MINUTE + keyOf(route, terminal);
        }

        private int keyOf(int route, int terminal) {
            return terminal * ROUTES + (at(table.settings, SHARING) == 0 ? route : 0);
        }

        private int fewest() {
            restart();
            meetUpTo(0, NO_EVENT);
            return buses;
        }

        /** The fewest buses with a trip beside the gathered ones. */
        private int fewestWith(int route, int from, int to, int departure, int length) {
            int leaving = leavingEvent(route, from, departure);
            int ready = readyEvent(route, to, departure + length);
            restart();
            int next = meetUpTo(0, leaving);
            meet(leaving);
            next = meetUpTo(next, ready);
            meet(ready);
            meetUpTo(next, NO_EVENT);
            return buses;
        }

        /** The deficit of a terminal, of all routes, by the events met last. */
        private int deficitOf(int terminal) {
            int sum = 0;
            for (int route = 0; route < ROUTES; route++) {
                sum += at(mostMissing, terminal * ROUTES + route);
            }
            return sum;
        }

        private void restart() {
            Arrays.fill(missing, 0);
            Arrays.fill(mostMissing, 0);
            buses = 0;
        }

        private int meetUpTo(int start, int bound) {
            for (int place = start; place < size; place++) {
                int event = at(events, place);
                if (event >= bound) {
                    return place;
                }
                meet(event);
            }
            return size;
        }

        private void meet(int event) {
            int key = event % KEYS;
            if (event % MINUTE < LEAVING) {
                put(missing, key, at(missing, key) - 1);
                return;
            }
            int more = at(missing, key) + 1;
            put(missing, key, more);
            if (more > at(mostMissing, key)) {
                put(mostMissing, key, more);
                buses++;
            }
        }
    }

    /** Cuts blocks, each told by its first trip, into duties. */
    private static final class Duties {
        private final Timetable table;
        private final int[] fewest;

        private Duties(Timetable table) {
            this.table = table;
            fewest = new int[MOST_TRIPS];
        }

        /** Whether a duty may end with a trip, ahead of the one that follows it or at the block's end (NONE). */
        private boolean mayEnd(int trip, int next) {
            return next == NONE || at(table.reliefs, at(table.goals, trip)) == 1;
        }

        private int latestEnd(int first) {
            return at(table.departures, first) + at(table.settings, DUTY_HOURS);
        }

        /** The last trip of the longest duty that begins with this one; NONE if there is none. */
        private int lastOfDuty(int first) {
            int latest = latestEnd(first);
            int last = NONE;
            int trip = first;
            for (int step = 0; step < MOST_TRIPS && trip != NONE && table.arrivalOf(trip) <= latest; step++) {
                int next = at(table.behinds, trip);
                last = mayEnd(trip, next) ? trip : last;
                trip = next;
            }
            return last;
        }

        private int fewestForward(int head) {
            int found = 0;
            int trip = head;
            while (trip != NONE && found < MOST_TRIPS) {
                int last = lastOfDuty(trip);
                if (last == NONE) {
                    return NONE;
                }
                found++;
                trip = at(table.behinds, last);
            }
            return found;
        }

        /** The first trip of a duty of a block that has so many. */
        private int firstOfDuty(int head, int rank) {
            int first = head;
            for (int before = 0; before < rank && before < MOST_TRIPS; before++) {
                first = at(table.behinds, lastOfDuty(first));
            }
            return first;
        }

        private int fewestBackward(int head) {
            int trip = table.endFrom(head);
            for (int step = 0; step < MOST_TRIPS && trip != NONE; step++) {
                put(fewest, trip, fewestToEnd(trip));
                trip = at(table.befores, trip);
            }
            return at(fewest, head);
        }

        /** The fewest duties from a trip on, once those from each later one on are known. */
        private int fewestToEnd(int first) {
            int latest = latestEnd(first);
            int least = NONE;
            int trip = first;
            for (int step = 0; step < MOST_TRIPS && trip != NONE && table.arrivalOf(trip) <= latest; step++) {
                int next = at(table.behinds, trip);
                int rest = next == NONE ? 0 : at(fewest, next);
                if (mayEnd(trip, next) && rest != NONE && (least == NONE || rest + 1 < least)) {
                    least = rest + 1;
                }
                trip = next;
            }
            return least;
        }

        private int fewestOfAll() {
            int sum = 0;
            for (int trip = 0; trip < table.trips; trip++) {
                if (table.isHead(trip)) {
                    int found = fewestForward(trip);
                    if (found == NONE) {
                        return NONE;
                    }
                    sum += found;
                }
            }
            return sum;
        }
    }

    /** The buffer, and where its reader stands. */
    private static final class Text {
        private static final int ROUTE = 0;
        private static final int ORIGIN = 1;
        private static final int GOAL = 2;
        private static final int AT_SIGN = 3;
        private static final int DEPARTURE = 4;
        private static final int LENGTH = 5;

        private final int[] signs;
        private final int[] parts;
        private int length;
        private int place;

        private Text() {
            signs = new int[MOST_SIGNS];
            parts = new int[LENGTH + 1];
            length = 0;
            place = ROUTE;
        }

        private int addSign(int code) {
            put(signs, length, code);
            length++;
            return length;
        }

        private int readToError() {
            beginJourney();
            int index = 0;
            while (index < length && takes(at(signs, index))) {
                index++;
            }
            return index;
        }

        private boolean isWhole() {
            return readToError() == length && place == LENGTH && at(parts, LENGTH) != NONE;
        }

        private int journeys() {
            int found = 1;
            for (int index = 0; index < length; index++) {
                found += at(signs, index) == ';' ? 1 : 0;
            }
            return found;
        }

        /** Adds the trips of a text that is whole. */
        private void addTo(Timetable table) {
            beginJourney();
            for (int index = 0; index < length; index++) {
                if (at(signs, index) == ';') {
                    addJourney(table);
                }
                takes(at(signs, index));
            }
            addJourney(table);
        }

        private void addJourney(Timetable table) {
            table.addTrip(at(parts, ROUTE), at(parts, ORIGIN), at(parts, GOAL),
                at(parts, DEPARTURE), at(parts, LENGTH));
        }

        private void beginJourney() {
            Arrays.fill(parts, NONE);
            place = ROUTE;
        }

        /** Reads one character, if a text can go on with it. */
        private boolean takes(int code) {
            if (place < AT_SIGN) {
                return takesName(code);
            }
            if (place == AT_SIGN) {
                place = code == '@' ? DEPARTURE : AT_SIGN;
                return code == '@';
            }
            return code >= '0' && code <= '9' ? takesDigit(code - '0') : takesEnd(code);
        }

        private boolean takesName(int code) {
            if (code < '0' || code > '3') {
                return false;
            }
            put(parts, place, code - '0');
            place++;
            return true;
        }

        private boolean takesDigit(int digit) {
            int number = at(parts, place);
            int longer = number == NONE ? digit : 10 * number + digit;
            int least = place == LENGTH ? 1 : 0;
            int most = place == LENGTH ? LONGEST_TRIP : LAST_MINUTE;
            if (number == 0 || longer < least || longer > most) {
                return false;
            }
            put(parts, place, longer);
            return true;
        }

        private boolean takesEnd(int code) {
            if (at(parts, place) == NONE) {
                return false;
            }
            if (place == DEPARTURE && code == '+') {
                place = LENGTH;
                return true;
            }
            if (place == LENGTH && code == ';') {
                beginJourney();
                return true;
            }
            return false;
        }
    }

    /** Places for states, made once and used again. */
    private static final class Shelf {
        private final Timetable[] places;

        private Shelf(int size) {
            places = new Timetable[Math.max(0, size)];
            for (int place = 0; place < places.length; place++) {
                places[place] = new Timetable();
            }
        }

        private void store(int place, Timetable state) {
            Timetable stored = place >= 0 && place < places.length ? places[place] : null;
            if (stored != null) {
                stored.copyFrom(state);
            }
        }

        private void fetch(int place, Timetable state) {
            Timetable stored = place >= 0 && place < places.length ? places[place] : null;
            if (stored != null) {
                state.copyFrom(stored);
            }
        }
    }
}
