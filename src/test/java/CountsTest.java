/** Promises 20 and 21: what is told of the calls; a test for each sentence. */
public final class CountsTest {
    private static final int BAD = CallWays2.BAD, NONE = CallWays2.NONE, KIND = CallWays2.KIND, INDEX = CallWays2.INDEX,
            SIZE = CallWays2.SIZE, STORE = CallWays2.STORE;
    private static final int MIN = Setups.MIN, MAX = Setups.MAX;

    public static void main(String[] args) {
        Checks.sentence("20: STATE (0 at first)", CountsTest::stateAtFirst);
        Checks.sentence("20: what the latest call that says so came to", CountsTest::stateOfEachCall);
        Checks.sentence("20: the latest call that says so (others leave it)", CountsTest::stateIsLeftByOthers);
        Checks.sentence("20: 0 (also where the answer is below 0)", CountsTest::stateOfAnswersBelowZero);
        Checks.sentence("20: or what it was below 0", CountsTest::stateBelowZero);
        Checks.sentence("21: 0 INSTRUMENTS, 1 FUNCTIONS", CountsTest::countMade);
        Checks.sentence("21: 2 PLAYED well", CountsTest::countWell);
        Checks.sentence("21: 3 PLAYED that FAILED", CountsTest::countFailed);
        Checks.sentence("21: 2, 3 PLAYED (BAD ones are not)", CountsTest::countLeavesBadOnesOut);
        Checks.sentence("21: 4 SAMPLES that were asked", CountsTest::countAsked);
        Checks.sentence("21: 4 .. in PLAYED", CountsTest::countAskedInPlayedAlone);
        Checks.sentence("21: BAD", CountsTest::countBad);
        Checks.sentence("An object is used for at most 512 calls", CountsTest::upTo512Calls);
        Checks.end();
    }

    private static void stateAtFirst(CallWays2 x) {
        Checks.due("state()", x.state(), 0);
        Checks.due("state() itself leaves it", x.state(), 0);
    }

    private static void dueState(String call, CallWays2 x, int want) {
        Checks.due("state() after " + call, x.state(), want);
    }

    /** Each of the seven, refused and then well: a refusal stays until the next one that says so. */
    private static void stateOfEachCall(CallWays2 x) {
        Setups.steady(x, 5);
        x.block(0, Setups.INTS, 1);
        x.knob(0, 4, 0);
        dueState("knob, refused", x, BAD);
        x.knob(0, 0, 5);
        dueState("knob", x, 0);
        x.phase(1, 0);
        dueState("phase, refused", x, BAD);
        x.phase(0, 0);
        dueState("phase", x, 0);
        x.at(9, 0);
        dueState("at, refused", x, NONE);
        x.at(0, 0);
        dueState("at", x, 0);
        x.put(0, 1, 0);
        dueState("put, refused", x, INDEX);
        x.put(0, 0, 0);
        dueState("put", x, 0);
        x.copy(0, 0, 9, 0, 0);
        dueState("copy, refused", x, NONE);
        x.copy(0, 0, 0, 0, 1);
        dueState("copy", x, 0);
        x.play(0, 0, 0, 0, 0, -1);
        dueState("play, refused", x, SIZE);
        x.play(0, 0, 0, 0, 0, 1);
        dueState("play", x, 0);
        x.next(1);
        dueState("next, refused", x, BAD);
        x.next(0);
        dueState("next", x, 0);
    }

    private static void otherCallsRefused(CallWays2 x) {
        x.instrument(9);
        x.note(9, 0, true);
        x.table(9, 0, true);
        x.block(0, 0, -1);
        x.lend(0, 9, false);
        x.isLent(0, 10);
        x.of(9, 0);
        x.bind(4);
        x.function(6, 0);
        x.agree(9, 0, 0);
        x.find(1, 2);
        x.count(5);
    }

    private static void otherCallsWell(CallWays2 x) {
        x.instrument(0);
        x.note(0, 0, true);
        x.table(0, 0, true);
        x.block(0, 0, 1);
        x.lend(1, 0, false);
        x.isLent(0, 1);
        x.of(0, 0);
        x.bind(1);
        x.function(4, 0);
        x.agree(0, 0, 1);
        x.find(1, 1);
        x.count(0);
    }

    private static void stateIsLeftByOthers(CallWays2 x) {
        otherCallsRefused(x);
        dueState("others that are refused", x, 0);
        otherCallsWell(x);
        x.at(9, 0);
        otherCallsWell(x);
        dueState("others that are well", x, NONE);
        otherCallsRefused(x);
        dueState("others that are refused", x, NONE);
        Checks.due("state() itself leaves it", x.state(), NONE);
    }

    private static void stateOfAnswersBelowZero(CallWays2 x) {
        x.instrument(Setups.GLASS);
        x.knob(0, 0, INDEX);
        Checks.due("knob", x, x.knob(0, 0, INDEX), INDEX, 0);
        x.phase(0, SIZE);
        Checks.due("phase", x, x.phase(0, 0), SIZE, 0);
        Setups.fill(x, 0, Setups.INTS, NONE);
        Checks.due("at", x, x.at(0, 0), NONE, 0);
        Checks.due("next", x, x.next(0), Double.doubleToLongBits(INDEX), 0);
    }

    private static void stateBelowZero(CallWays2 x) {
        Setups.fill(x, 0, Setups.INTS, 1);
        Setups.fill(x, 1, Setups.FLOATS, 1);
        Checks.dueRefusal("STORE", x, x.copy(0, 0, 1, 0, 1), STORE);
        Checks.dueRefusal("BAD", x, x.play(0, 0, 0, 0, 0, 1), BAD);
        x.instrument(Setups.TONE);
        Checks.dueRefusal("KIND", x, x.play(0, 1, 0, 0, 0, 1), KIND);
        for (int cause : Setups.CAUSES) {
            int instrument = Setups.failing(x, cause);
            Checks.due("next", x, x.next(instrument), 0, cause);
            Checks.dueRefusal("play", x, x.play(instrument, 0, 0, 0, 0, 1), cause);
        }
    }

    private static void countMade(CallWays2 x) {
        for (int i = 0; i < 14; i++) {
            Checks.due("INSTRUMENTS", x.count(0), Math.min(i, 12));
            Checks.due("FUNCTIONS", x.count(1), Math.min(i, 8));
            x.instrument(i % 5);
            x.function(i % 6, i);
            x.instrument(5);
            x.function(6, 0);
        }
    }

    private static void countWell(CallWays2 x) {
        Setups.steady(x, 5);
        x.function(Setups.SAME, 0);
        x.block(0, Setups.INTS, 40);
        x.bind(Setups.INTS);
        for (int way = 0; way < 3; way++) {
            x.play(0, way, 0, 0, 0, 40);
            Checks.due("one of 40, way " + way, x.count(2), 2 * way + 1);
            x.play(0, way, 0, 0, 0, 0);
            Checks.due("one of 0, way " + way, x.count(2), 2 * way + 2);
        }
        Checks.due("none FAILED", x.count(3), 0);
    }

    private static void countFailed(CallWays2 x) {
        int drum = x.instrument(Setups.DRUM);
        int steady = Setups.steady(x, 5);
        x.function(Setups.REFUSING, 5);
        x.block(0, Setups.INTS, 4);
        x.play(drum, 0, 0, 0, 0, 3);
        Checks.due("by its instrument", x.count(3), 1);
        x.play(steady, 2, 0, 0, 0, 3);
        Checks.due("by its function", x.count(3), 2);
        x.play(steady, 0, 0, 9, 0, 3);
        Checks.due("by its block: NONE", x.count(3), 3);
        x.play(steady, 1, 0, 0, 0, 3);
        Checks.due("by its block: KIND", x.count(3), 4);
        x.play(steady, 0, 0, 0, 0, -1);
        Checks.due("by its block: SIZE", x.count(3), 5);
        x.play(steady, 0, 0, 0, 0, 5);
        Checks.due("by its block: INDEX", x.count(3), 6);
        Checks.due("none well", x.count(2), 0);
    }

    private static void countLeavesBadOnesOut(CallWays2 x) {
        Setups.steady(x, 5);
        x.block(0, Setups.INTS, 4);
        x.play(1, 0, 0, 0, 0, 1);
        x.play(0, 3, 0, 0, 0, 1);
        x.play(0, 2, 0, 0, 0, 1);
        x.play(0, 0, 0, 10, 0, 1);
        for (int what = 2; what < 5; what++) {
            Checks.due("count(" + what + ")", x.count(what), 0);
        }
    }

    private static void countAsked(CallWays2 x) {
        int reader = Setups.reader(x, 1, 2, 3);
        x.function(Setups.REFUSING, 2);
        x.block(0, Setups.INTS, 40);
        x.play(reader, 0, 0, 0, 0, 3);
        Checks.due("3 that come well", x.count(4), 3);
        x.play(reader, 0, 0, 0, 0, 0);
        Checks.due("0", x.count(4), 3);
        x.phase(reader, 1);
        x.play(reader, 0, 0, 0, 0, 40);
        Checks.due("2, and one that FAILS", x.count(4), 6);
        x.phase(reader, 0);
        x.play(reader, 2, 0, 0, 0, 40);
        Checks.due("1, and one that its function refuses", x.count(4), 8);
        x.play(reader, 0, 0, 0, 39, 2);
        x.play(reader, 0, 0, 8, 0, 2);
        Checks.due("none where the block refuses", x.count(4), 8);
    }

    private static void countAskedInPlayedAlone(CallWays2 x) {
        Setups.steady(x, 5);
        x.function(Setups.SAME, 0);
        x.next(0);
        x.agree(0, 0, 40);
        x.find(1, 1);
        Checks.due("next(), agree(), find()", x.count(4), 0);
    }

    private static void countBad(CallWays2 x) {
        for (int what : new int[] {-1, 5, MIN, MAX}) {
            Checks.due("count(" + what + ")", x.count(what), BAD);
        }
        Checks.due("count() leaves state()", x.state(), 0);
    }

    private static void upTo512Calls(CallWays2 x) {
        Setups.drum(x, 127, 1);
        x.block(0, Setups.DOUBLES, 40);
        // four calls have been made
        for (int call = 5; call <= 511; call++) {
            Checks.due("call " + call, x.play(0, 0, 0, 0, 0, 40), 40);
        }
        Checks.due("the 512th call", x.count(4), 507 * 40);
    }
}
