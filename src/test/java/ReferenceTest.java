import java.util.Random;

/** Long runs of calls, the same ones each time, on the class and on the reference: every answer is compared. */
public final class ReferenceTest {
    private static final int RUNS = 150;
    private static final int CALLS = 512;

    private final Random random;
    private final BusBlocks buses = new BusBlocks();
    private final Reference reference = new Reference();
    private final int terminals;
    private final int start;
    private final int width;
    private final int longest;
    private int calls;

    private ReferenceTest(int run) {
        random = new Random(run);
        terminals = 1 + random.nextInt(4);
        start = random.nextInt(3) * 600;
        width = 30 + random.nextInt(1400);
        longest = 1 + random.nextInt(240);
    }

    public static void main(String[] args) {
        for (int run = 0; run < RUNS; run++) {
            new ReferenceTest(run).run(run);
        }
        Check.finish();
    }

    private void run(int run) {
        while (calls < CALLS) {
            step("run " + run + ", call " + calls + ": ");
        }
    }

    private int below(int bound) {
        return random.nextInt(bound);
    }

    /** Mostly in its range, now and then just outside it or far from it. */
    private int about(int least, int most) {
        switch (below(50)) {
            case 0: return least - 1;
            case 1: return most + 1;
            case 2: return random.nextInt();
            case 3: return least;
            case 4: return most;
            default: return least + below(most - least + 1);
        }
    }

    private int aTrip() {
        return about(0, Math.max(0, reference.count(0) - 1));
    }

    private int aTime() {
        return below(20) == 0 ? about(0, 1439) : Math.min(1439, start + below(width));
    }

    private int aLength() {
        return below(20) == 0 ? about(1, 240) : 1 + below(longest);
    }

    private int aTerminal() {
        return below(30) == 0 ? about(0, 3) : below(terminals);
    }

    /** What more than 512 calls answer is free. */
    private void same(String text, Check.Call call, Check.Call due) {
        if (calls < CALLS) {
            calls++;
            Check.dueText(text, Check.outcome(call), Check.outcome(due));
        }
    }

    private void sameShare(String text) {
        if (calls < CALLS) {
            calls++;
            Check.dueShare(text, buses.drivenShare(), reference.drivenShare());
        }
    }

    private void step(String at) {
        int kind = below(100);
        if (kind < 45) {
            change(at, kind);
        } else if (kind < 58) {
            textOrSnapshot(at, below(20));
        } else if (kind < 97) {
            look(at, below(11));
        } else {
            same(at + "digest()", buses::digest, reference::digest);
        }
    }

    private void change(String at, int kind) {
        int a = aTrip();
        int b = aTrip();
        int terminal = about(0, 3);
        int route = about(0, 3);
        int from = aTerminal();
        int to = aTerminal();
        int time = aTime();
        int length = aLength();
        if (kind < 2) {
            int minutes = about(0, below(2) == 0 ? 60 : 10);
            same(at + "layover", () -> buses.layover(terminal, minutes), () -> reference.layover(terminal, minutes));
        } else if (kind < 4) {
            same(at + "relief", () -> buses.relief(terminal), () -> reference.relief(terminal));
        } else if (kind < 15) {
            same(at + "trip", () -> buses.trip(route, from, to, time, length),
                () -> reference.trip(route, from, to, time, length));
        } else if (kind < 20) {
            same(at + "shift", () -> buses.shift(a, time), () -> reference.shift(a, time));
        } else if (kind < 24) {
            int[][] ranges = {{0, 1}, {60, 900}, {0, 9}, {0, 240}, {0, 1}};
            int[] range = ranges[Math.max(0, Math.min(4, terminal))];
            int value = about(range[0], range[1]);
            same(at + "set", () -> buses.set(terminal, value), () -> reference.set(terminal, value));
        } else if (kind < 36) {
            same(at + "follow", () -> buses.follow(a, b), () -> reference.follow(a, b));
        } else if (kind < 39) {
            same(at + "part", () -> buses.part(a), () -> reference.part(a));
        } else if (kind < 42) {
            same(at + "blockAll", buses::blockAll, reference::blockAll);
        } else {
            same(at + "fail", () -> buses.fail(a), () -> reference.fail(a));
        }
    }

    private void textOrSnapshot(String at, int kind) {
        int slot = about(0, 1);
        if (kind < 5) {
            type(at);
        } else if (kind < 7) {
            same(at + "clearBuffer", buses::clearBuffer, reference::clearBuffer);
        } else if (kind < 10) {
            same(at + "firstError", buses::firstError, reference::firstError);
        } else if (kind < 13) {
            same(at + "load", buses::load, reference::load);
        } else if (kind < 15) {
            same(at + "keep", () -> buses.keep(slot), () -> reference.keep(slot));
        } else if (kind < 17) {
            same(at + "goBack", () -> buses.goBack(slot), () -> reference.goBack(slot));
        } else {
            same(at + "undo", buses::undo, reference::undo);
        }
    }

    private void type(String at) {
        StringBuilder text = new StringBuilder();
        for (int trip = 0; trip <= below(2); trip++) {
            text.append(below(4)).append(below(terminals)).append(below(terminals));
            text.append('@').append(aTime()).append('+').append(aLength()).append(';');
        }
        if (below(4) != 0) {
            text.setLength(text.length() - 1);
        }
        if (below(4) == 0) {
            text.setCharAt(below(text.length()), (char) (below(3) == 0 ? 33 + below(94) : "0123456789@+;".charAt(below(13))));
        }
        if (below(3) != 0) {
            same(at + "clearBuffer", buses::clearBuffer, reference::clearBuffer);
        }
        for (int index = 0; index < text.length(); index++) {
            int code = below(400) == 0 ? about(33, 126) : text.charAt(index);
            same(at + "append", () -> buses.append(code), () -> reference.append(code));
        }
        same(at + "firstError", buses::firstError, reference::firstError);
        if (below(2) == 0) {
            same(at + "load", buses::load, reference::load);
        }
    }

    private void look(String at, int kind) {
        int a = aTrip();
        int b = aTrip();
        int terminal = about(0, 3);
        int block = about(0, Math.max(0, reference.count(2) - 1));
        int what = about(0, 10);
        int few = about(0, 4);
        int time = aTime();
        int length = aLength();
        int from = aTerminal();
        int to = aTerminal();
        switch (kind) {
            case 0:
                same(at + "terminalOf", () -> buses.terminalOf(terminal, few), () -> reference.terminalOf(terminal, few));
                break;
            case 1:
                same(at + "tripOf", () -> buses.tripOf(a, what), () -> reference.tripOf(a, what));
                break;
            case 2:
                same(at + "blockOf", () -> buses.blockOf(block, what), () -> reference.blockOf(block, what));
                break;
            case 3:
                same(at + "duty", () -> buses.duty(block, few, terminal), () -> reference.duty(block, few, terminal));
                break;
            case 4:
            case 5:
                same(at + "count " + what, () -> buses.count(what), () -> reference.count(what));
                break;
            case 6:
                same(at + "setting", () -> buses.setting(terminal), () -> reference.setting(terminal));
                break;
            case 7:
                same(at + "whyNot", () -> buses.whyNot(a, b), () -> reference.whyNot(a, b));
                break;
            case 8:
                same(at + "ifTrip", () -> buses.ifTrip(terminal, from, to, time, length),
                    () -> reference.ifTrip(terminal, from, to, time, length));
                break;
            case 9:
                int by = about(0, 120);
                same(at + "bestTime", () -> buses.bestTime(a, by), () -> reference.bestTime(a, by));
                break;
            default:
                same(at + "ifFailed", () -> buses.ifFailed(a), () -> reference.ifFailed(a));
                sameShare(at + "drivenShare");
        }
    }
}
