/** Promises 15, 17 and 18, and the terms' kinds of functions: a test for each sentence. */
public final class FunctionsTest {
    private static final int BAD = CallWays2.BAD, FULL = CallWays2.FULL, OWN = CallWays2.OWN;
    private static final int MIN = Setups.MIN, MAX = Setups.MAX;
    private static final int BY_FUNCTION = 2;

    public static void main(String[] args) {
        Checks.sentence("15: its number (8 at most)", FunctionsTest::numbersFrom0To7);
        Checks.sentence("15: BAD", FunctionsTest::functionBad);
        Checks.sentence("15: FULL", FunctionsTest::functionFull);
        Checks.sentence("15: BAD; FULL (both)", FunctionsTest::functionBadWhenFull);
        Checks.sentence("WAYS: 0 x + a", FunctionsTest::plus);
        Checks.sentence("WAYS: 1 x * a", FunctionsTest::times);
        Checks.sentence("WAYS: 2 the lesser of both", FunctionsTest::lesser);
        Checks.sentence("WAYS: 3 the greater one", FunctionsTest::greater);
        Checks.sentence("WAYS: 4 x", FunctionsTest::same);
        Checks.sentence("WAYS: 5 OWN, if x == a", FunctionsTest::refusing);
        Checks.sentence("WAYS: 5 .. else x", FunctionsTest::refusingLetsOthersThrough);
        Checks.sentence("WAYS: 5 OWN (SILENCE; no further one is asked)", FunctionsTest::refusingFails);
        Checks.sentence("WAYS: a FAILURE of the INSTRUMENT does not go through it", FunctionsTest::failureDoesNotGoThrough);
        Checks.sentence("WAYS: a (an int, taken as a double)", FunctionsTest::beyondAnInt);
        Checks.sentence("terms: all that are no number (none comes, not of the greatest)", FunctionsTest::theGreatest);
        Checks.sentence("WAYS: ahead of its being turned", FunctionsTest::aheadOfBeingTurned);
        Checks.sentence("WAYS: of -0.0 (each kind)", FunctionsTest::ofNegativeZero);
        Checks.sentence("17: n (0 to 40)", FunctionsTest::agreeOnNoneAndOnMost);
        Checks.sentence("17: False: n is not 0 to 40", FunctionsTest::agreeBadNumber);
        Checks.sentence("17: False: also BAD (INSTRUMENT)", FunctionsTest::agreeBadInstrument);
        Checks.sentence("17: False: also BAD (FUNCTION)", FunctionsTest::agreeBadFunction);
        Checks.sentence("17: are alike in WAY 0 and in WAY 2", FunctionsTest::agreeAlike);
        Checks.sentence("17: are alike (the first that is not, the last of n)", FunctionsTest::agreeUpToTheLast);
        Checks.sentence("17: (by ==, as doubles)", FunctionsTest::agreeByValue);
        Checks.sentence("17: up to the first FAILURE", FunctionsTest::agreeUpToFailure);
        Checks.sentence("17: and that is the same, at the same one", FunctionsTest::agreeOnTheSameFailure);
        Checks.sentence("17: and that is the same (in one WAY alone)", FunctionsTest::agreeNotOnOneFailure);
        Checks.sentence("17: (The INSTRUMENT stays as it is.)", FunctionsTest::agreeLeavesIt);
        Checks.sentence("18: The first FUNCTION by which x goes to y", FunctionsTest::findFirst);
        Checks.sentence("18: x goes to y, by each kind", FunctionsTest::findEachKind);
        Checks.sentence("18: (as doubles)", FunctionsTest::findBeyondAnInt);
        Checks.sentence("18: FAILURES are none", FunctionsTest::findPassesFailures);
        Checks.sentence("18: -1", FunctionsTest::findNone);
        Checks.end();
    }

    private static void numbersFrom0To7(CallWays2 x) {
        int steady = Setups.steady(x, 100);
        x.block(0, Setups.INTS, 1);
        for (int f = 0; f < 8; f++) {
            Checks.due("function " + f, x.function(Setups.PLUS, f), f);
            Checks.due("count(1)", x.count(1), f + 1);
        }
        for (int f = 0; f < 8; f++) {
            x.play(steady, BY_FUNCTION, f, 0, 0, 1);
            Checks.dueRow("each has its own a", x, 0, 100 + f);
        }
    }

    private static void functionBad(CallWays2 x) {
        for (int kind : new int[] {-1, 6, MIN, MAX}) {
            Checks.due("kind " + kind, x.function(kind, 0), BAD);
        }
        Checks.due("count(1)", x.count(1), 0);
        Checks.due("the first is number 0", x.function(5, 0), 0);
        Checks.due("function() leaves state()", x.state(), 0);
    }

    private static void eightPlus(CallWays2 x) {
        for (int f = 0; f < 8; f++) {
            x.function(Setups.PLUS, 1);
        }
    }

    private static void functionFull(CallWays2 x) {
        eightPlus(x);
        for (int kind = 0; kind < 6; kind++) {
            Checks.due("the 9th, kind " + kind, x.function(kind, 0), FULL);
        }
        Checks.due("count(1)", x.count(1), 8);
        Checks.due("none came to be", x.find(5, 5), -1);
        Checks.due("function() leaves state()", x.state(), 0);
    }

    private static void functionBadWhenFull(CallWays2 x) {
        eightPlus(x);
        Checks.due("kind 6", x.function(6, 0), BAD);
        Checks.due("kind -1", x.function(-1, 0), BAD);
    }

    /** One steady sample through function 0, as a double. */
    private static void dueThrough(int kind, int value, int a, double want) {
        CallWays2 x = new CallWays2();
        Setups.steady(x, value);
        x.function(kind, a);
        x.block(0, Setups.DOUBLES, 1);
        Checks.due(value + " and " + a, x, x.play(0, BY_FUNCTION, 0, 0, 0, 1), 1, 0);
        Checks.dueRow(value + " and " + a, x, 0, want);
    }

    private static void plus(CallWays2 unused) {
        dueThrough(Setups.PLUS, 5, 3, 8.0);
        dueThrough(Setups.PLUS, 5, -5, 0.0);
        dueThrough(Setups.PLUS, -5, 0, -5.0);
        dueThrough(Setups.PLUS, 5, -8, -3.0);
    }

    private static void times(CallWays2 unused) {
        dueThrough(Setups.TIMES, 5, 3, 15.0);
        dueThrough(Setups.TIMES, 5, -1, -5.0);
        dueThrough(Setups.TIMES, 5, 0, 0.0);
        dueThrough(Setups.TIMES, -5, 0, -0.0);
        dueThrough(Setups.TIMES, 0, -5, -0.0);
    }

    private static void lesser(CallWays2 unused) {
        dueThrough(Setups.LESSER, 5, 6, 5.0);
        dueThrough(Setups.LESSER, 6, 5, 5.0);
        dueThrough(Setups.LESSER, 5, 5, 5.0);
        dueThrough(Setups.LESSER, -5, -6, -6.0);
        dueThrough(Setups.LESSER, MAX, MIN, MIN);
        dueThrough(Setups.LESSER, MIN, MAX, MIN);
    }

    private static void greater(CallWays2 unused) {
        dueThrough(Setups.GREATER, 5, 6, 6.0);
        dueThrough(Setups.GREATER, 6, 5, 6.0);
        dueThrough(Setups.GREATER, 5, 5, 5.0);
        dueThrough(Setups.GREATER, -5, -6, -5.0);
        dueThrough(Setups.GREATER, MAX, MIN, MAX);
        dueThrough(Setups.GREATER, MIN, MAX, MAX);
    }

    private static void same(CallWays2 unused) {
        dueThrough(Setups.SAME, 5, 9, 5.0);
        dueThrough(Setups.SAME, 5, 5, 5.0);
        dueThrough(Setups.SAME, MIN, 0, MIN);
    }

    private static void refusing(CallWays2 unused) {
        for (int a : new int[] {0, 5, -5, MAX, MIN}) {
            CallWays2 x = new CallWays2();
            Setups.steady(x, a);
            x.function(Setups.REFUSING, a);
            x.block(0, Setups.DOUBLES, 1);
            Checks.dueRefusal("x is " + a, x, x.play(0, BY_FUNCTION, 0, 0, 0, 1), OWN);
        }
    }

    private static void refusingLetsOthersThrough(CallWays2 unused) {
        dueThrough(Setups.REFUSING, 5, 6, 5.0);
        dueThrough(Setups.REFUSING, 5, -5, 5.0);
        dueThrough(Setups.REFUSING, MAX, MIN, MAX);
        CallWays2 x = new CallWays2();
        int drum = Setups.drum(x, 5, 3);
        x.function(Setups.REFUSING, 1);
        x.block(0, Setups.DOUBLES, 2);
        Checks.due("1.665 is not 1", x, x.play(drum, BY_FUNCTION, 0, 0, 0, 2), 2, 0);
    }

    private static void refusingFails(CallWays2 x) {
        int reader = Setups.reader(x, 10, 20, 30, 40);
        x.function(Setups.REFUSING, 20);
        for (int lane : Setups.LANES) {
            Setups.fill(x, 0, lane, 1, 2, 3, 4, 5);
            x.phase(reader, 0);
            Checks.dueRefusal("lane " + lane, x, x.play(reader, BY_FUNCTION, 0, 0, 1, 3), OWN);
            Checks.dueRow("silence", x, 0, 1, 0, 0, 0, 5);
            Checks.duePhase("behind the second", x, reader, 2);
        }
        Checks.due("all that were asked", x.count(4), 8);
        Checks.due("PLAYED that FAILED", x.count(3), 4);
        int drum = Setups.drum(x, 20, 2);
        x.play(drum, BY_FUNCTION, 0, 0, 0, 1);
        Checks.dueNext("the drum itself has given its sample", x, drum, 10.0);
    }

    private static void failureDoesNotGoThrough(CallWays2 x) {
        x.function(Setups.REFUSING, 0);
        x.block(0, Setups.DOUBLES, 1);
        for (int cause : Setups.CAUSES) {
            int instrument = Setups.failing(x, cause);
            Checks.dueRefusal("cause " + cause, x, x.play(instrument, BY_FUNCTION, 0, 0, 0, 1), cause);
        }
    }

    private static void beyondAnInt(CallWays2 unused) {
        dueThrough(Setups.PLUS, MAX, MAX, 4294967294.0);
        dueThrough(Setups.PLUS, MIN, MIN, -4294967296.0);
        dueThrough(Setups.TIMES, MAX, MAX, 2147483647.0 * 2147483647.0);
        dueThrough(Setups.TIMES, MIN, MIN, 4611686018427387904.0);
        dueThrough(Setups.TIMES, MAX, MIN, -2147483648.0 * 2147483647.0);
    }

    /** No call leads to an infinite sample or to one that is no number: these are the furthest from 0. */
    private static void theGreatest(CallWays2 x) {
        x.instrument(Setups.GLASS);
        x.note(0, 1, true);
        x.knob(0, 0, MIN);
        x.function(Setups.TIMES, MIN);
        x.function(Setups.TIMES, MAX);
        double least = 2.0 * (-255 - 128) + MIN;
        for (int lane : new int[] {Setups.FLOATS, Setups.DOUBLES}) {
            x.block(0, lane, 2);
            for (int f = 0; f < 2; f++) {
                x.phase(0, -255);
                Checks.due("play", x, x.play(0, BY_FUNCTION, f, 0, f, 1), 1, 0);
            }
            Checks.dueRow("lane " + lane, x, 0, least * MIN, least * MAX);
        }
    }

    private static void aheadOfBeingTurned(CallWays2 x) {
        x.function(Setups.TIMES, 10);
        x.function(Setups.PLUS, -40000);
        x.function(Setups.REFUSING, 1);
        x.block(0, Setups.SHORTS, 2);
        int drum = Setups.drum(x, 5, 3);
        x.play(drum, BY_FUNCTION, 0, 0, 0, 2);
        Checks.dueRow("10 times 1.665", x, 0, 50, 16);
        int steady = Setups.steady(x, 40001);
        x.play(steady, BY_FUNCTION, 1, 0, 0, 2);
        Checks.dueRow("40001 - 40000", x, 0, 1, 1);
        x.knob(steady, 0, 65537);
        Checks.due("1 as a short alone", x, x.play(steady, BY_FUNCTION, 2, 0, 0, 2), 2, 0);
        Checks.dueRow("65537", x, 0, 1, 1);
    }

    private static void ofNegativeZero(CallWays2 x) {
        int bell = Setups.bell(x, 0);
        for (int kind = 0; kind < 6; kind++) {
            x.function(kind, 0);
        }
        // the lesser of -0.0 and 0.0 is -0.0, the greater one 0.0, as the machine's own min and max have it
        double[] want = {0.0, -0.0, -0.0, 0.0, -0.0};
        for (int lane : new int[] {Setups.FLOATS, Setups.DOUBLES}) {
            x.block(0, lane, 1);
            for (int f = 0; f < 5; f++) {
                x.phase(bell, 1);
                Checks.due("kind " + f, x, x.play(bell, BY_FUNCTION, f, 0, 0, 1), 1, 0);
                Checks.dueRow("kind " + f, x, 0, want[f]);
            }
        }
        x.phase(bell, 1);
        Checks.dueRefusal("-0.0 == 0.0", x, x.play(bell, BY_FUNCTION, 5, 0, 0, 1), OWN);
    }

    private static void agreeOnNoneAndOnMost(CallWays2 x) {
        int steady = Setups.steady(x, 5);
        x.function(Setups.SAME, 0);
        x.function(Setups.PLUS, 1);
        Checks.due("0 that would differ", x.agree(steady, 1, 0), true);
        Checks.due("1 that differs", x.agree(steady, 1, 1), false);
        Checks.due("40 alike", x.agree(steady, 0, 40), true);
        int[] row = new int[40];
        for (int i = 0; i < 40; i++) {
            row[i] = i;
        }
        int reader = Setups.reader(x, row);
        x.function(Setups.LESSER, 38);
        Checks.due("39 of 40 alike", x.agree(reader, 2, 40), false);
        Checks.due("39 alike", x.agree(reader, 2, 39), true);
    }

    private static void agreeBadNumber(CallWays2 x) {
        int steady = Setups.steady(x, 5);
        x.function(Setups.SAME, 0);
        for (int n : new int[] {-1, 41, MIN, MAX}) {
            Checks.due("n " + n, x.agree(steady, 0, n), false);
        }
        Checks.due("agree() leaves state()", x.state(), 0);
        int drum = x.instrument(Setups.DRUM);
        Checks.due("n 41, where the first fails", x.agree(drum, 0, 41), false);
    }

    private static void agreeBadInstrument(CallWays2 x) {
        x.function(Setups.SAME, 0);
        Checks.due("when there is none", x.agree(0, 0, 0), false);
        Setups.steady(x, 5);
        for (int i : new int[] {-1, 1, 12, MIN, MAX}) {
            Checks.due("instrument " + i, x.agree(i, 0, 0), false);
        }
        Checks.due("agree() leaves state()", x.state(), 0);
    }

    private static void agreeBadFunction(CallWays2 x) {
        int steady = Setups.steady(x, 5);
        Checks.due("when there is none", x.agree(steady, 0, 0), false);
        x.function(Setups.SAME, 0);
        for (int f : new int[] {-1, 1, 8, MIN, MAX}) {
            Checks.due("function " + f, x.agree(steady, f, 0), false);
        }
        Checks.due("agree() leaves state()", x.state(), 0);
    }

    private static void agreeAlike(CallWays2 x) {
        int steady = Setups.steady(x, 5);
        int[][] functions = {{Setups.SAME, 9}, {Setups.PLUS, 0}, {Setups.TIMES, 1}, {Setups.LESSER, 5}, {Setups.GREATER, 5},
            {Setups.REFUSING, 6}};
        for (int[] f : functions) {
            Checks.due("kind " + f[0] + " of " + f[1], x.agree(steady, x.function(f[0], f[1]), 3), true);
        }
        CallWays2 y = new CallWays2();
        steady = Setups.steady(y, 5);
        int[][] others = {{Setups.PLUS, 1}, {Setups.TIMES, 2}, {Setups.LESSER, 4}, {Setups.GREATER, 6}, {Setups.REFUSING, 5}};
        for (int[] f : others) {
            Checks.due("kind " + f[0] + " of " + f[1], y.agree(steady, y.function(f[0], f[1]), 3), false);
        }
    }

    private static void agreeUpToTheLast(CallWays2 x) {
        int reader = Setups.reader(x, 1, 2, 3, 4);
        x.function(Setups.LESSER, 3);
        x.function(Setups.GREATER, 2);
        Checks.due("the fourth differs, of 3", x.agree(reader, 0, 3), true);
        Checks.due("the fourth differs, of 4", x.agree(reader, 0, 4), false);
        Checks.due("the first differs", x.agree(reader, 1, 4), false);
        x.phase(reader, 1);
        Checks.due("from the second on", x.agree(reader, 1, 3), true);
    }

    private static void agreeByValue(CallWays2 x) {
        int bell = Setups.bell(x, 0);
        x.function(Setups.PLUS, 0);
        x.function(Setups.TIMES, -1);
        Checks.due("-0.0 and 0.0", x.agree(bell, 0, 4), true);
        Checks.due("0.0 and -0.0", x.agree(bell, 1, 4), true);
        int drum = Setups.drum(x, 5, 3);
        x.function(Setups.LESSER, 1);
        x.block(0, Setups.INTS, 1);
        x.play(drum, 0, 0, 0, 0, 1);
        Checks.due("1.665 and 1 are alike as ints alone", x.agree(drum, 2, 1), false);
    }

    private static void agreeUpToFailure(CallWays2 x) {
        int reader = Setups.reader(x, 1, 2, 3);
        x.function(Setups.LESSER, 3);
        x.function(Setups.LESSER, 2);
        Checks.due("alike up to it", x.agree(reader, 0, 40), true);
        Checks.due("unlike ahead of it", x.agree(reader, 1, 40), false);
        x.phase(reader, 3);
        Checks.due("none ahead of it", x.agree(reader, 1, 40), true);
        int bell = Setups.bell(x, 64);
        x.knob(bell, 2, 1);
        x.function(Setups.GREATER, 0);
        Checks.due("unlike behind it alone", x.agree(bell, 2, 40), true);
    }

    private static void agreeOnTheSameFailure(CallWays2 x) {
        x.function(Setups.PLUS, 1);
        x.function(Setups.REFUSING, 0);
        for (int cause : Setups.CAUSES) {
            int instrument = Setups.failing(x, cause);
            Checks.due("cause " + cause, x.agree(instrument, 0, 3), true);
            Checks.due("cause " + cause + ", a function that would refuse", x.agree(instrument, 1, 3), true);
        }
    }

    private static void agreeNotOnOneFailure(CallWays2 x) {
        int bell = Setups.bell(x, 64);
        x.knob(bell, 2, 2);
        x.function(Setups.REFUSING, -64);
        Checks.due("OWN one ahead of the bell's", x.agree(bell, 0, 5), false);
        Checks.due("ahead of both", x.agree(bell, 0, 1), true);
        x.phase(bell, 2);
        Checks.due("the bell's own, ahead of the function's", x.agree(bell, 0, 5), true);
        int reader = Setups.reader(x, 7);
        x.function(Setups.REFUSING, 7);
        Checks.due("OWN ahead of INDEX", x.agree(reader, 1, 5), false);
    }

    private static void agreeLeavesIt(CallWays2 x) {
        x.function(Setups.SAME, 0);
        x.function(Setups.PLUS, 1);
        int drum = Setups.drum(x, 64, 2);
        x.phase(drum, MAX);
        for (int f = 0; f < 2; f++) {
            x.agree(drum, f, 40);
            Checks.dueNext("its level", x, drum, 64.0);
            Checks.duePhase("its phase", x, drum, MAX);
        }
        int bell = Setups.bell(x, 64);
        x.knob(bell, 1, 2);
        x.knob(bell, 2, 2);
        x.agree(bell, 0, 40);
        Checks.dueNext("its level, behind a failure", x, bell, 64.0);
        Checks.duePhase("its phase, behind a failure", x, bell, 0);
        Checks.due("nothing is PLAYED well", x.count(2), 0);
        Checks.due("nothing is PLAYED that FAILED", x.count(3), 0);
        Checks.due("nothing is asked in PLAYED", x.count(4), 0);
        x.next(9);
        x.agree(bell, 0, 40);
        Checks.due("agree() leaves state()", x.state(), BAD);
    }

    private static void findFirst(CallWays2 x) {
        x.function(Setups.PLUS, 2);
        x.function(Setups.TIMES, 2);
        x.function(Setups.PLUS, 2);
        Checks.due("the first of three", x.find(2, 4), 0);
        Checks.due("the first of two", x.find(5, 7), 0);
        Checks.due("the second", x.find(3, 6), 1);
        for (int f = 3; f < 7; f++) {
            x.function(Setups.PLUS, 2);
        }
        x.function(Setups.PLUS, 90);
        Checks.due("the last of 8", x.find(1, 91), 7);
    }

    private static void dueFound(int kind, int a, int from, int to) {
        CallWays2 x = new CallWays2();
        x.function(kind, a);
        Checks.due("kind " + kind + " of " + a + ": find(" + from + ", " + to + ")", x.find(from, to), 0);
    }

    private static void findEachKind(CallWays2 unused) {
        dueFound(Setups.PLUS, -3, 1, -2);
        dueFound(Setups.TIMES, -3, 2, -6);
        dueFound(Setups.TIMES, 0, -5, 0);
        dueFound(Setups.LESSER, 3, 9, 3);
        dueFound(Setups.LESSER, 3, 2, 2);
        dueFound(Setups.GREATER, 3, 9, 9);
        dueFound(Setups.GREATER, 3, 2, 3);
        dueFound(Setups.SAME, 3, MIN, MIN);
        dueFound(Setups.REFUSING, 3, 4, 4);
    }

    private static void findBeyondAnInt(CallWays2 x) {
        x.function(Setups.PLUS, MAX);
        x.function(Setups.TIMES, MAX);
        x.function(Setups.TIMES, -1);
        Checks.due("a sum that would go round", x.find(MAX, -2), -1);
        Checks.due("a product that would go round", x.find(MAX, 1), -1);
        Checks.due("the least int, times -1", x.find(MIN, MIN), -1);
        Checks.due("no end stands for what is beyond it", x.find(2, MAX), -1);
        Checks.due("up to the end", x.find(0, MAX), 0);
        Checks.due("from the end", x.find(MIN + 1, MAX), 2);
    }

    private static void findPassesFailures(CallWays2 x) {
        CallWays2 y = new CallWays2();
        y.function(Setups.REFUSING, 0);
        Checks.due("a failure is no 0", y.find(0, 0), -1);
        x.function(Setups.REFUSING, 3);
        Checks.due("none but one that fails", x.find(3, 3), -1);
        x.function(Setups.SAME, 0);
        Checks.due("the one behind it", x.find(3, 3), 1);
        Checks.due("another x", x.find(4, 4), 0);
        Checks.due("find() leaves state()", x.state(), 0);
    }

    private static void findNone(CallWays2 x) {
        Checks.due("without a function", x.find(0, 0), -1);
        x.function(Setups.PLUS, 1);
        Checks.due("by none", x.find(0, 0), -1);
        x.knob(9, 0, 0);
        Checks.due("by none", x.find(1, 1), -1);
        Checks.due("find() leaves state()", x.state(), BAD);
    }
}
