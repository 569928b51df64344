/** Compares answers with those that are due; a test ends with Check.finish(). */
final class Check {
    interface Call {
        long answer();
    }

    private static int wrong = 0;
    private static int looked = 0;

    private Check() {
    }

    static void due(String call, long answered, long due) {
        looked++;
        if (answered != due) {
            wrong++;
            System.out.println(call + " answered " + answered + ", due is " + due);
        }
    }

    static void dueShare(String call, double answered, double due) {
        looked++;
        if (answered != due) {
            wrong++;
            System.out.println(call + " answered " + answered + ", due is " + due);
        }
    }

    static void dueText(String call, String answered, String due) {
        looked++;
        if (!answered.equals(due)) {
            wrong++;
            System.out.println(call + " answered " + answered + ", due is " + due);
        }
    }

    static void noSuch(String text, Call call) {
        throwsOf(text, call, "IndexOutOfBoundsException");
    }

    static void badArgument(String text, Call call) {
        throwsOf(text, call, "IllegalArgumentException");
    }

    static void badState(String text, Call call) {
        throwsOf(text, call, "IllegalStateException");
    }

    /** What a call does, as one text: its answer, or the simple name of just the class that it throws. */
    static String outcome(Call call) {
        try {
            return Long.toString(call.answer());
        } catch (RuntimeException thrown) {
            return thrown.getClass().getSimpleName();
        }
    }

    private static void throwsOf(String text, Call call, String due) {
        dueText(text, outcome(call), due);
    }

    static void type(BusBlocks buses, String text) {
        buses.clearBuffer();
        for (int index = 0; index < text.length(); index++) {
            buses.append(text.charAt(index));
        }
    }

    /** Lets trips follow one another in this order. */
    static void chain(BusBlocks buses, int... trips) {
        for (int index = 1; index < trips.length; index++) {
            due("follow(" + trips[index] + ", " + trips[index - 1] + ")",
                buses.follow(trips[index], trips[index - 1]), 0);
        }
    }

    /** Checks that a call throws, and that nothing is changed by it. */
    static void refusedBy(BusBlocks buses, String text, Call call, String due) {
        long before = buses.digest();
        dueText(text, outcome(call), due);
        due("digest() behind " + text, buses.digest(), before);
    }

    static void finish() {
        System.out.println(looked + " looked at, " + wrong + " wrong");
        if (wrong != 0 || looked == 0) {
            System.exit(1);
        }
    }
}
