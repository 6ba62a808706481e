/** Promises 14 to 18, 20 and 21: the handle, functions, playing in three ways, what is told of it. */
public final class PlayTest {
    private static final int TONE = 0, GLASS = 1, DRUM = 2, BELL = 3, READER = 4;
    private static final int SHORTS = 0, INTS = 1, FLOATS = 2, DOUBLES = 3;
    private static final int BAD = CallWays2.BAD, FULL = CallWays2.FULL, OWN = CallWays2.OWN, ZERO = CallWays2.ZERO,
            NONE = CallWays2.NONE, KIND = CallWays2.KIND, INDEX = CallWays2.INDEX, SIZE = CallWays2.SIZE;
    private static final int MIN = Integer.MIN_VALUE, MAX = Integer.MAX_VALUE;

    public static void main(String[] args) {
        promise14Bind();
        promise15Function();
        promise16BadPlays();
        promise16BlockRefuses();
        promise16IntoEachLane();
        promise16ByTheHandle();
        promise16ByFunctions();
        promise16NegativeZeroes();
        promise16Silence();
        promise16AllAtOnce();
        promise17Agree();
        promise18Find();
        promise20State();
        promise21Count();
        Checks.end();
    }

    private static void promise14Bind() {
        CallWays2 x = new CallWays2();
        Checks.due("bind(-1)", x.bind(-1), -2);
        Checks.due("bind(4)", x.bind(4), -2);
        Checks.due("the first bind", x.bind(3), -1);
        Checks.due("the second", x.bind(0), 3);
        Checks.due("bind(4)", x.bind(4), -2);
        Checks.due("the same again", x.bind(0), 0);
        Checks.due("bind() leaves state()", x.state(), 0);
    }

    private static void promise15Function() {
        CallWays2 x = new CallWays2();
        Checks.due("kind -1", x.function(-1, 0), BAD);
        Checks.due("kind 6", x.function(6, 0), BAD);
        for (int i = 0; i < 8; i++) {
            Checks.due("function " + i, x.function(i % 6, i), i);
        }
        Checks.due("the 9th", x.function(0, 0), FULL);
        Checks.due("kind 6 when full", x.function(6, 0), BAD);
        Checks.due("count(1)", x.count(1), 8);
        Checks.due("function() leaves state()", x.state(), 0);
        x.instrument(TONE);
        x.block(0, INTS, 1);
        Checks.due("the 8th stands", x, x.play(0, 2, 7, 0, 0, 1), 1, 0);
        Checks.due("no 9th stands", x, x.play(0, 2, 8, 0, 0, 1), BAD, BAD);
        Checks.due("nor for agree()", x.agree(0, 8, 0), false);
    }

    /** A tone that gives 16 more with each sample, from -128 on, and a block of four in each lane. */
    private static CallWays2 withTone() {
        CallWays2 x = new CallWays2();
        x.instrument(TONE);
        x.note(0, 16, true);
        for (int lane = 0; lane < 4; lane++) {
            x.block(lane, lane, 4);
        }
        return x;
    }

    private static void promise16BadPlays() {
        CallWays2 x = withTone();
        x.function(4, 0);
        int[][] bad = {{-1, 0, 0, 0}, {1, 0, 0, 0}, {0, -1, 0, 0}, {0, 3, 0, 0}, {0, 0, 0, -1}, {0, 0, 0, 10}, {0, 2, 1, 0},
            {0, 2, -1, 0}, {0, 2, 1, 9}};
        for (int[] b : bad) {
            Checks.due("play " + b[0] + " " + b[1] + " " + b[2] + " " + b[3], x, x.play(b[0], b[1], b[2], b[3], 0, -1), BAD, BAD);
        }
        Checks.due("bad plays are not PLAYED", x.count(2) + x.count(3) + x.count(4), 0);
        x.bind(SHORTS);
        Checks.due("f does not count by members", x, x.play(0, 0, -9, 0, 0, 1), 1, 0);
        Checks.due("f does not count by the handle", x, x.play(0, 1, 99, 0, 0, 1), 1, 0);
    }

    private static void promise16BlockRefuses() {
        CallWays2 x = withTone();
        x.function(4, 0);
        for (int way = 0; way < 3; way++) {
            x.bind(DOUBLES);
            Checks.due("into nothing", x, x.play(0, way, 0, 9, -1, -1), NONE, NONE);
            int wrongLane = way == 1 ? KIND : SIZE;
            Checks.due("into another lane", x, x.play(0, way, 0, INTS, -1, -1), wrongLane, wrongLane);
            x.bind(INTS);
            Checks.due("n -1, from -1", x, x.play(0, way, 0, INTS, -1, -1), SIZE, SIZE);
            Checks.due("n MIN", x, x.play(0, way, 0, INTS, 0, MIN), SIZE, SIZE);
            int[][] beyond = {{-1, 0}, {-1, 1}, {5, 0}, {4, 1}, {0, 5}, {1, 4}, {MAX, 1}, {1, MAX}, {MAX, MAX}, {MIN, 0}};
            for (int[] b : beyond) {
                Checks.due("from " + b[0] + ", n " + b[1], x, x.play(0, way, 0, INTS, b[0], b[1]), INDEX, INDEX);
            }
            Checks.due("none at the end", x, x.play(0, way, 0, INTS, 4, 0), 0, 0);
        }
        Checks.due("nothing is asked", x.count(4), 0);
        Checks.due("PLAYED that FAILED", x.count(3), 3 * 14);
        Checks.due("the phase stays", x, x.phase(0, 0), 0, 0);
    }

    private static void dueRow(String what, CallWays2 x, int block, double... want) {
        int lane = x.of(block, 0);
        for (int i = 0; i < want.length; i++) {
            long bits = lane == FLOATS ? Float.floatToIntBits((float) want[i])
                    : lane == DOUBLES ? Double.doubleToLongBits(want[i]) : (long) want[i];
            Checks.due(what + ": at(" + block + ", " + i + ")", x, x.at(block, i), bits, 0);
        }
    }

    private static void promise16IntoEachLane() {
        CallWays2 x = new CallWays2();
        x.instrument(GLASS);
        x.instrument(DRUM);
        x.knob(1, 1, 3);
        x.function(1, MAX);
        for (int lane = 0; lane < 4; lane++) {
            x.block(lane, lane, 2);
        }
        for (int knob : new int[] {40000, -40000, MAX, MIN, 16777217}) {
            x.knob(0, 0, knob);
            for (int lane = 0; lane < 4; lane++) {
                x.play(0, 0, 0, lane, 0, 1);
                x.play(0, 2, 0, lane, 1, 1);
            }
            double product = (double) knob * MAX;
            dueRow("shorts " + knob, x, SHORTS, (short) knob, (short) (int) product);
            dueRow("ints " + knob, x, INTS, knob, (int) product);
            dueRow("floats " + knob, x, FLOATS, knob, product);
            dueRow("doubles " + knob, x, DOUBLES, knob, product);
        }
        for (int lane = 0; lane < 4; lane++) {
            x.note(1, 5, true);
            Checks.due("play a drum", x, x.play(1, 0, 0, lane, 0, 2), 2, 0);
            double second = 5.0 * 333.0 / 1000.0;
            dueRow("a drum", x, lane, 5.0, lane < FLOATS ? (int) second : second);
        }
    }

    private static void promise16ByTheHandle() {
        CallWays2 x = withTone();
        for (int lane = 0; lane < 4; lane++) {
            Checks.due("not bound to " + lane, x, x.play(0, 1, 0, lane, 0, 2), KIND, KIND);
            x.bind(lane);
            x.phase(0, 1);
            Checks.due("bound to " + lane, x, x.play(0, 1, 0, lane, 1, 3), 3, 0);
            dueRow("by the handle", x, lane, 0.0, -112.0, -96.0, -80.0);
            Checks.due("the phase", x, x.phase(0, 0), 4, 0);
        }
    }

    private static void promise16ByFunctions() {
        CallWays2 x = withTone();
        x.function(0, -5);
        x.function(1, -5);
        x.function(2, -100);
        x.function(3, -100);
        x.function(4, -100);
        x.function(5, -96);
        double[][] want = {{-133, -117, -101, -85}, {640, 560, 480, 400}, {-128, -112, -100, -100}, {-100, -100, -96, -80},
            {-128, -112, -96, -80}, {0, 0, 0, 0}};
        for (int f = 0; f < 6; f++) {
            for (int lane = 0; lane < 4; lane++) {
                x.phase(0, 0);
                Checks.due("play by " + f, x, x.play(0, 2, f, lane, 0, 4), f == 5 ? OWN : 4, f == 5 ? OWN : 0);
                dueRow("by function " + f, x, lane, want[f]);
                Checks.due("the phase by " + f, x, x.phase(0, 0), f == 5 ? 3 : 4, 0);
            }
        }
        x.function(0, MAX);
        x.play(0, 2, 6, DOUBLES, 0, 1);
        dueRow("a function beyond an int", x, DOUBLES, -128.0 + MAX);
        x.phase(0, 0);
        Checks.due("a function that does not refuse", x, x.play(0, 2, 5, INTS, 0, 2), 2, 0);
        dueRow("gives it as it is", x, INTS, -128, -112);
    }

    private static void promise16NegativeZeroes() {
        CallWays2 x = new CallWays2();
        x.instrument(BELL);
        x.knob(0, 1, 1);
        x.knob(0, 2, -1);
        for (int kind = 0; kind < 6; kind++) {
            x.function(kind, 0);
        }
        x.block(0, DOUBLES, 2);
        x.block(1, FLOATS, 2);
        x.block(2, INTS, 2);
        double[][] want = {{0.0, 0.0}, {0.0, -0.0}, {0.0, -0.0}, {0.0, 0.0}, {0.0, -0.0}};
        for (int f = 0; f < 5; f++) {
            for (int block = 0; block < 3; block++) {
                x.phase(0, 0);
                Checks.due("play by " + f, x, x.play(0, 2, f, block, 0, 2), 2, 0);
                dueRow("by " + f, x, block, want[f]);
            }
        }
        x.phase(0, 1);
        Checks.due("-0.0 == 0.0", x, x.play(0, 2, 5, 0, 0, 1), OWN, OWN);
        dueRow("silence is 0.0", x, 0, 0.0, -0.0);
    }

    private static void promise16Silence() {
        CallWays2 x = new CallWays2();
        x.instrument(BELL);
        x.knob(0, 1, 1);
        x.knob(0, 2, 2);
        for (int lane = 0; lane < 4; lane++) {
            x.block(0, lane, 5);
            for (int i = 0; i < 5; i++) {
                x.put(0, i, 7);
            }
            x.note(0, 9, true);
            x.phase(0, 0);
            Checks.due("a bell that fails", x, x.play(0, 0, 0, 0, 1, 3), OWN, OWN);
            dueRow("silence in its places alone", x, 0, 7.0, 0.0, 0.0, 0.0, 7.0);
            Checks.due("the phase behind the failure", x, x.phase(0, 0), 3, 0);
        }
        Checks.due("all that were asked", x.count(4), 12);
    }

    /** A reader that plays into its own table reads what was there, not what it has just given. */
    private static void promise16AllAtOnce() {
        CallWays2 x = new CallWays2();
        x.instrument(READER);
        x.note(0, 0, true);
        x.block(0, INTS, 4);
        for (int i = 0; i < 4; i++) {
            x.put(0, i, i + 1);
        }
        x.table(0, 0, true);
        Checks.due("play into its own table", x, x.play(0, 0, 0, 0, 1, 3), 3, 0);
        dueRow("moved by one", x, 0, 1, 1, 2, 3);
        x.phase(0, 2);
        Checks.due("fails in its own table", x, x.play(0, 0, 0, 0, 0, 3), INDEX, INDEX);
        dueRow("silence", x, 0, 0, 0, 0, 3);
    }

    private static void promise17Agree() {
        CallWays2 x = withTone();
        x.function(4, 3);
        x.function(0, 0);
        x.function(1, 1);
        x.function(2, -96);
        x.function(3, -96);
        x.function(5, -96);
        x.function(1, 2);
        for (int f = 0; f < 3; f++) {
            Checks.due("agree by " + f, x.agree(0, f, 40), true);
        }
        Checks.due("lesser, up to -96", x.agree(0, 3, 3), true);
        Checks.due("lesser, beyond -96", x.agree(0, 3, 4), false);
        Checks.due("greater, below -96", x.agree(0, 4, 1), false);
        Checks.due("ahead of OWN", x.agree(0, 5, 2), true);
        Checks.due("OWN in one way alone", x.agree(0, 5, 3), false);
        Checks.due("twice it, of none", x.agree(0, 6, 0), true);
        Checks.due("twice it", x.agree(0, 6, 1), false);
        int[][] bad = {{-1, 0, 0}, {1, 0, 0}, {0, -1, 0}, {0, 7, 0}, {0, 0, -1}, {0, 0, 41}};
        for (int[] b : bad) {
            Checks.due("agree " + b[0] + " " + b[1] + " " + b[2], x.agree(b[0], b[1], b[2]), false);
        }
        Checks.due("agree() leaves state()", x.state(), 0);
        Checks.due("agree() asks nothing in PLAYED", x.count(4), 0);
        Checks.due("agree() leaves the phase", x, x.phase(0, 0), 0, 0);
        agreeUpToAFailure();
    }

    private static void agreeUpToAFailure() {
        CallWays2 x = new CallWays2();
        x.instrument(BELL);
        x.knob(0, 1, 2);
        x.knob(0, 2, 2);
        x.note(0, 64, true);
        x.function(5, -32);
        x.function(5, 16);
        x.function(1, -1);
        Checks.due("OWN ahead of the bell's", x.agree(0, 0, 5), false);
        Checks.due("OWN where the bell fails too", x.agree(0, 1, 5), true);
        Checks.due("unlike ahead of the failure", x.agree(0, 2, 5), false);
        x.phase(0, 2);
        Checks.due("the failure is the first", x.agree(0, 2, 5), true);
        x.block(0, DOUBLES, 1);
        Checks.due("agree() leaves the level", x.play(0, 0, 0, 0, 0, 1), OWN);
        Checks.due("it is asked on", x.next(0), Double.doubleToLongBits(-64.0));
    }

    private static void promise18Find() {
        CallWays2 x = new CallWays2();
        Checks.due("no function", x.find(0, 0), -1);
        x.function(5, 3);
        x.function(0, 2);
        x.function(1, 2);
        x.function(2, 10);
        x.function(3, 10);
        x.function(4, 0);
        x.function(0, MAX);
        x.function(1, -1);
        Checks.due("refuses all but one", x.find(7, 7), 0);
        Checks.due("the refused one goes on", x.find(3, 3), 3);
        Checks.due("plus", x.find(3, 5), 1);
        Checks.due("the first of two", x.find(2, 4), 1);
        Checks.due("times", x.find(5, 10), 2);
        Checks.due("lesser", x.find(50, 10), 3);
        Checks.due("greater", x.find(-50, 10), 4);
        Checks.due("no wrap-around", x.find(MAX, -2), -1);
        Checks.due("none", x.find(1, 100), -1);
        Checks.due("times -1", x.find(MIN + 1, MAX), 7);
        Checks.due("find() leaves state()", x.state(), 0);
    }

    private static void promise20State() {
        CallWays2 x = withTone();
        x.knob(0, 9, 0);
        Checks.due("state()", x.state(), BAD);
        x.instrument(9);
        x.count(9);
        x.agree(0, 9, 9);
        x.find(1, 2);
        x.bind(0);
        x.of(9, 0);
        x.isLent(0, 1);
        Checks.due("calls that do not say so", x.state(), BAD);
        Checks.due("state() itself", x.state(), BAD);
        x.phase(0, -5);
        x.phase(0, 0);
        Checks.due("an answer below 0 that is well", x.state(), 0);
        x.block(9, DOUBLES, 1);
        x.put(9, 0, -1);
        x.at(9, 0);
        Checks.due("bits below 0 that are well", x.state(), 0);
    }

    private static void promise21Count() {
        CallWays2 x = withTone();
        x.instrument(DRUM);
        x.function(5, -112);
        Checks.due("3 that come well", x.play(0, 0, 0, 0, 0, 3), 3);
        Checks.due("0 that come well", x.play(0, 0, 0, 0, 0, 0), 0);
        Checks.due("one that fails at once", x.play(1, 0, 0, 0, 0, 3), ZERO);
        x.phase(0, 0);
        Checks.due("one that fails in its function", x.play(0, 2, 0, 0, 0, 4), OWN);
        Checks.due("one that its block refuses", x.play(0, 0, 0, 0, 9, 4), INDEX);
        Checks.due("one that is bad", x.play(0, 7, 0, 0, 0, 4), BAD);
        int[] want = {2, 1, 2, 3, 6};
        for (int what = 0; what < 5; what++) {
            Checks.due("count(" + what + ")", x.count(what), want[what]);
        }
        Checks.due("count(-1)", x.count(-1), BAD);
        Checks.due("count(5)", x.count(5), BAD);
    }
}
