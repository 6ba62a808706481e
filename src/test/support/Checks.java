/** Counts and prints the answers that are not the ones that are due. */
final class Checks {
    private static int wrong = 0;
    private static int checked = 0;
    private static String sentence = "";

    interface Test {
        void run(CallWays2 x);
    }

    private Checks() {
    }

    /** A test of one sentence of the document, on a new object: what it throws does not end the tests of the others. */
    static void sentence(String words, Test test) {
        sentence = words;
        int before = checked;
        try {
            test.run(new CallWays2());
        } catch (RuntimeException e) {
            fault("threw " + e);
        }
        if (checked == before) {
            fault("was not tested");
        }
        sentence = "";
    }

    private static void fault(String what) {
        wrong++;
        System.out.println(sentence.isEmpty() ? what : "\"" + sentence + "\": " + what);
    }

    static void due(String call, long got, long want) {
        checked++;
        if (got != want) {
            fault(call + " answered " + got + ", due is " + want);
        }
    }

    static void due(String call, boolean got, boolean want) {
        due(call, got ? 1L : 0L, want ? 1L : 0L);
    }

    /** A call that says its outcome by state(): its answer, and what it came to. */
    static void due(String call, CallWays2 x, long got, long want, int state) {
        due(call, got, want);
        due("state() after " + call, x.state(), state);
    }

    /** A call that answers its own refusal, and says it by state() too. */
    static void dueRefusal(String call, CallWays2 x, long got, int cause) {
        due(call, x, got, cause, cause);
    }

    /** The samples that a block holds, from its first to its last. */
    static void dueRow(String what, CallWays2 x, int block, double... want) {
        due(what + ": of(" + block + ", 1)", x.of(block, 1), want.length);
        int lane = x.of(block, 0);
        for (int i = 0; i < want.length; i++) {
            due(what + ": at(" + block + ", " + i + ")", x.at(block, i), bits(lane, want[i]));
        }
    }

    private static long bits(int lane, double value) {
        switch (lane) {
            case Setups.FLOATS: return Float.floatToIntBits((float) value);
            case Setups.DOUBLES: return Double.doubleToLongBits(value);
            default: return (long) value;
        }
    }

    static void dueNext(String when, CallWays2 x, int instrument, double want) {
        due(when + ": next(" + instrument + ")", x, x.next(instrument), Double.doubleToLongBits(want), 0);
    }

    static void dueFailure(String when, CallWays2 x, int instrument, int cause) {
        due(when + ": next(" + instrument + ")", x, x.next(instrument), 0, cause);
    }

    /** Asks for the phase and leaves it as it is. */
    static void duePhase(String when, CallWays2 x, int instrument, int want) {
        due(when + ": phase of " + instrument, x.phase(instrument, want), want);
    }

    static void end() {
        System.out.println(wrong == 0 ? checked + " answers, all as due" : wrong + " answers are not as due");
        if (wrong != 0) {
            System.exit(1);
        }
    }
}
