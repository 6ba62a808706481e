/** Promises 7 to 13: blocks, what they lend, and their samples. */
public final class BlocksTest {
    private static final int SHORTS = 0, INTS = 1, FLOATS = 2, DOUBLES = 3;
    private static final int BAD = CallWays2.BAD, NONE = CallWays2.NONE, INDEX = CallWays2.INDEX, SIZE = CallWays2.SIZE,
            STORE = CallWays2.STORE;
    private static final int MIN = Integer.MIN_VALUE, MAX = Integer.MAX_VALUE;

    public static void main(String[] args) {
        promise7Block();
        promise8Lend();
        promise9IsLent();
        promise10Of();
        promise11At();
        promise12Put();
        promise12PutIntoFloats();
        promise13Copy();
        promise13CopyRefuses();
        Checks.end();
    }

    private static void promise7Block() {
        CallWays2 x = new CallWays2();
        for (int block = 0; block < 10; block++) {
            Checks.due("block " + block, x.block(block, block % 4, block + 31), 1);
        }
        Checks.due("of 40", x.of(9, 1), 40);
        Checks.due("block -1", x.block(-1, INTS, 1), BAD);
        Checks.due("block 10", x.block(10, INTS, 1), BAD);
        Checks.due("lane -1", x.block(0, -1, 1), BAD);
        Checks.due("lane 4", x.block(0, 4, 1), BAD);
        Checks.due("n 41", x.block(0, INTS, 41), BAD);
        Checks.due("n -1", x.block(0, INTS, -1), SIZE);
        Checks.due("n MIN", x.block(0, INTS, MIN), SIZE);
        Checks.due("lane 4, n -1", x.block(0, 4, -1), BAD);
        Checks.due("block 10, n -1", x.block(10, 0, -1), BAD);
        Checks.due("bad calls change nothing", x.of(0, 0), SHORTS);
        Checks.due("n 0", x.block(0, DOUBLES, 0), 1);
        Checks.due("lane of none", x.of(0, 0), DOUBLES);
        Checks.due("how many", x.of(0, 1), 0);
        x.block(1, INTS, 2);
        x.put(1, 0, 5);
        x.at(1, 9);
        Checks.due("a block anew", x.block(1, INTS, 2), 1);
        Checks.due("block() leaves state()", x.state(), INDEX);
        Checks.due("its samples are 0", x, x.at(1, 0), 0, 0);
    }

    private static void promise8Lend() {
        CallWays2 x = new CallWays2();
        x.block(0, INTS, 2);
        Checks.due("lend, lent", x.lend(1, 0, true), 1);
        Checks.due("lend, copied", x.lend(2, 0, false), 1);
        x.put(0, 1, 8);
        Checks.due("at of the lent one", x, x.at(1, 1), 8, 0);
        Checks.due("at of the copy", x, x.at(2, 1), 0, 0);
        Checks.due("a copy of a lent one", x.lend(3, 1, false), 1);
        Checks.due("has its samples", x, x.at(3, 1), 8, 0);
        Checks.due("a copy has its lane", x.of(3, 0), INTS);
        x.put(3, 1, 9);
        Checks.due("a copy does not reach back", x, x.at(0, 1), 8, 0);
        Checks.due("lend of block -1", x.lend(0, -1, true), BAD);
        Checks.due("lend of block 10", x.lend(0, 10, true), BAD);
        Checks.due("lend to block -1", x.lend(-1, 0, true), BAD);
        Checks.due("lend to block 10", x.lend(10, 0, false), BAD);
        Checks.due("a copy of nothing", x.lend(0, 9, false), NONE);
        Checks.due("it changes nothing", x, x.at(0, 1), 8, 0);
        Checks.due("nothing, lent", x.lend(0, 9, true), 1);
        Checks.due("the block holds nothing", x.of(0, 0), NONE);
        Checks.due("the other one holds on", x, x.at(1, 1), 8, 0);
        x.lend(4, 1, true);
        Checks.due("lend to itself, lent", x.lend(4, 4, true), 1);
        Checks.due("is still lent", x.isLent(1, 4), true);
        Checks.due("lend to itself, copied", x.lend(4, 4, false), 1);
        Checks.due("is a copy", x.isLent(1, 4), false);
        Checks.due("of the same", x, x.at(4, 1), 8, 0);
        x.at(4, 2);
        x.lend(0, 9, false);
        Checks.due("lend() leaves state()", x.state(), INDEX);
    }

    private static void promise9IsLent() {
        CallWays2 x = new CallWays2();
        Checks.due("both nothing", x.isLent(0, 9), true);
        x.block(0, INTS, 0);
        Checks.due("one nothing", x.isLent(0, 9), false);
        Checks.due("the other nothing", x.isLent(9, 0), false);
        Checks.due("itself", x.isLent(0, 0), true);
        x.block(1, INTS, 0);
        Checks.due("two of none", x.isLent(0, 1), false);
        x.lend(2, 0, true);
        x.lend(3, 2, true);
        Checks.due("lent on", x.isLent(3, 0), true);
        x.lend(2, 1, true);
        Checks.due("lent on holds, whoever lent it", x.isLent(3, 0), true);
        Checks.due("no longer", x.isLent(2, 0), false);
        Checks.due("block 10", x.isLent(10, 10), false);
        Checks.due("block -1", x.isLent(-1, 9), false);
        Checks.due("block -1 behind", x.isLent(9, -1), false);
        Checks.due("isLent() leaves state()", x.state(), 0);
    }

    private static void promise10Of() {
        CallWays2 x = new CallWays2();
        for (int lane = 0; lane < 4; lane++) {
            x.block(lane, lane, 10 + lane);
            Checks.due("lane " + lane, x.of(lane, 0), lane);
            Checks.due("how many of " + lane, x.of(lane, 1), 10 + lane);
        }
        Checks.due("what -1", x.of(0, -1), BAD);
        Checks.due("what 2", x.of(0, 2), BAD);
        Checks.due("what 2 of nothing", x.of(9, 2), BAD);
        Checks.due("nothing", x.of(9, 1), NONE);
        Checks.due("block 10", x.of(10, 0), BAD);
        Checks.due("block -1", x.of(-1, 0), BAD);
        Checks.due("of() leaves state()", x.state(), 0);
    }

    private static void promise11At() {
        CallWays2 x = new CallWays2();
        Checks.due("nothing", x, x.at(0, 0), 0, NONE);
        x.block(0, INTS, 2);
        x.put(0, 1, MIN);
        Checks.due("i 1", x, x.at(0, 1), MIN, 0);
        Checks.due("i 2", x, x.at(0, 2), 0, INDEX);
        Checks.due("i -1", x, x.at(0, -1), 0, INDEX);
        Checks.due("block 10", x, x.at(10, 0), 0, BAD);
        Checks.due("block -1", x, x.at(-1, 0), 0, BAD);
    }

    private static void promise12Put() {
        CallWays2 x = new CallWays2();
        x.block(0, SHORTS, 3);
        int[] values = {0, 1, -1, 32767, 32768, -32768, -32769, 65535, 65536, 70000, MAX, MIN};
        for (int v : values) {
            Checks.due("put short " + v, x, x.put(0, 2, v), 1, 0);
            Checks.due("at", x, x.at(0, 2), (short) v, 0);
        }
        x.block(1, INTS, 1);
        for (int v : values) {
            Checks.due("put int " + v, x, x.put(1, 0, v), 1, 0);
            Checks.due("at", x, x.at(1, 0), v, 0);
        }
        Checks.due("i 3", x, x.put(0, 3, 1), INDEX, INDEX);
        Checks.due("i -1", x, x.put(0, -1, 1), INDEX, INDEX);
        Checks.due("nothing", x, x.put(9, 0, 1), NONE, NONE);
        Checks.due("block 10", x, x.put(10, 0, 1), BAD, BAD);
        Checks.due("block -1", x, x.put(-1, 0, 1), BAD, BAD);
    }

    private static void promise12PutIntoFloats() {
        CallWays2 x = new CallWays2();
        x.block(0, FLOATS, 1);
        x.block(1, DOUBLES, 1);
        int[] values = {0, 1, -1, 2, 3, 16777215, 16777216, 16777217, 16777219, -16777217, 33554434, 33554438,
            MAX, MAX - 64, MAX - 63, MIN, MIN + 1, 1 << 30, 123456789, -987654321};
        for (int v : values) {
            Checks.due("put float " + v, x, x.put(0, 0, v), 1, 0);
            Checks.due("at", x, x.at(0, 0), Float.floatToIntBits((float) v), 0);
            Checks.due("put double " + v, x, x.put(1, 0, v), 1, 0);
            Checks.due("at", x, x.at(1, 0), Double.doubleToLongBits((double) v), 0);
        }
    }

    private static void dueRow(String what, CallWays2 x, int block, int... want) {
        for (int i = 0; i < want.length; i++) {
            Checks.due(what + ": at(" + block + ", " + i + ")", x, x.at(block, i), want[i], 0);
        }
    }

    private static CallWays2 withRows() {
        CallWays2 x = new CallWays2();
        x.block(0, INTS, 5);
        for (int i = 0; i < 5; i++) {
            x.put(0, i, i + 1);
        }
        x.block(1, INTS, 3);
        return x;
    }

    private static void promise13Copy() {
        CallWays2 x = withRows();
        Checks.due("copy", x, x.copy(0, 3, 1, 1, 2), 1, 0);
        dueRow("copied", x, 1, 0, 4, 5);
        Checks.due("copy forth within one", x, x.copy(0, 0, 0, 1, 4), 1, 0);
        dueRow("copied forth", x, 0, 1, 1, 2, 3, 4);
        x.lend(2, 0, true);
        Checks.due("copy back within what is lent", x, x.copy(0, 1, 2, 0, 4), 1, 0);
        dueRow("copied back", x, 2, 1, 2, 3, 4, 4);
        Checks.due("copy none from the end", x, x.copy(0, 5, 1, 3, 0), 1, 0);
        x.block(3, FLOATS, 2);
        x.block(4, FLOATS, 2);
        x.put(3, 0, -3);
        Checks.due("copy floats", x, x.copy(3, 0, 4, 1, 1), 1, 0);
        Checks.due("at", x, x.at(4, 1), Float.floatToIntBits(-3f), 0);
    }

    private static void promise13CopyRefuses() {
        CallWays2 x = withRows();
        int[][] beyond = {{-1, 0, 1}, {0, -1, 1}, {0, 0, -1}, {0, 0, 4}, {5, 0, 1}, {4, 0, 2}, {0, 3, 1}, {0, 2, 2}, {6, 0, 0},
            {0, 4, 0}, {MAX, 0, 1}, {0, MAX, 1}, {1, 0, MAX}, {0, 1, MAX}, {MAX, MAX, MAX}, {MIN, 0, 0}, {0, MIN, 0}, {0, 0, MIN}};
        for (int[] c : beyond) {
            Checks.due("copy " + c[0] + " " + c[1] + " " + c[2], x, x.copy(0, c[0], 1, c[1], c[2]), INDEX, INDEX);
        }
        x.block(2, SHORTS, 3);
        Checks.due("unlike lanes, even of none", x, x.copy(0, 0, 2, 0, 0), STORE, STORE);
        Checks.due("unlike lanes, ahead of INDEX", x, x.copy(2, 9, 0, 9, 9), STORE, STORE);
        Checks.due("from nothing", x, x.copy(9, 0, 0, 9, 0), NONE, NONE);
        Checks.due("to nothing", x, x.copy(0, 9, 9, 0, 0), NONE, NONE);
        Checks.due("from block 10 to nothing", x, x.copy(10, 0, 9, 0, 0), BAD, BAD);
        Checks.due("from nothing to block -1", x, x.copy(9, 0, -1, 0, 0), BAD, BAD);
        Checks.due("from block -1", x, x.copy(-1, 0, 0, 0, 0), BAD, BAD);
        Checks.due("to block 10", x, x.copy(0, 0, 10, 0, 0), BAD, BAD);
        Checks.due("well again", x, x.copy(0, 0, 1, 0, 0), 1, 0);
        dueRow("nothing was copied", x, 1, 0, 0, 0);
    }
}
