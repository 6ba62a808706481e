/** Promises 7 to 13, and the terms' sentences on blocks: a test for each sentence. */
public final class BlocksTest {
    private static final int SHORTS = Setups.SHORTS, INTS = Setups.INTS, FLOATS = Setups.FLOATS, DOUBLES = Setups.DOUBLES;
    private static final int BAD = CallWays2.BAD, NONE = CallWays2.NONE, INDEX = CallWays2.INDEX, SIZE = CallWays2.SIZE,
            STORE = CallWays2.STORE;
    private static final int MIN = Setups.MIN, MAX = Setups.MAX;
    private static final int[] NO_BLOCK = {-1, 10, MIN, MAX};
    private static final int[] NUMBERS = {0, 1, -1, 32767, 32768, -32768, -32769, 65535, 65536, 70000, -70000, 16777215,
        16777216, 16777217, 16777219, -16777217, 33554434, 33554438, MAX - 64, MAX - 63, MAX, MIN + 1, MIN};

    public static void main(String[] args) {
        Checks.sentence("terms: BLOCKS 0 .. 9 hold nothing at first", BlocksTest::tenBlocks);
        Checks.sentence("terms: SAMPLES (0 to 40, 0 at first)", BlocksTest::samplesAreZeroAtFirst);
        Checks.sentence("terms: several may hold the same ones", BlocksTest::allTenHoldTheSame);
        Checks.sentence("terms: BITS of a FLOAT its 32 as a whole number with sign", BlocksTest::bitsOfFloats);
        Checks.sentence("terms: BITS of a DOUBLE its 64", BlocksTest::bitsOfDoubles);
        Checks.sentence("terms: BITS: else itself", BlocksTest::bitsOfWholeNumbers);
        Checks.sentence("7: A BLOCK holds n new SAMPLES of a LANE", BlocksTest::blockAnew);
        Checks.sentence("7: new SAMPLES (not those that were LENT)", BlocksTest::blockAnewLeavesTheLent);
        Checks.sentence("7: n (0, 40)", BlocksTest::blockOfNoneAndOfMost);
        Checks.sentence("7: BAD: BLOCK", BlocksTest::blockBadBlock);
        Checks.sentence("7: BAD: LANE", BlocksTest::blockBadLane);
        Checks.sentence("7: BAD: n above 40", BlocksTest::blockTooLarge);
        Checks.sentence("7: SIZE", BlocksTest::blockSize);
        Checks.sentence("7: BAD: ..; SIZE (both)", BlocksTest::blockBadAheadOfSize);
        Checks.sentence("8: what another one does, LENT", BlocksTest::lendLent);
        Checks.sentence("8: or a copy of it", BlocksTest::lendCopied);
        Checks.sentence("8: what another one does (itself)", BlocksTest::lendToItself);
        Checks.sentence("8: BAD", BlocksTest::lendBad);
        Checks.sentence("8: NONE: it holds nothing, and a copy is asked", BlocksTest::lendNone);
        Checks.sentence("8: NONE: .. and a copy is asked (LENT is not)", BlocksTest::lendNothing);
        Checks.sentence("8: BAD; NONE (both)", BlocksTest::lendBadAheadOfNone);
        Checks.sentence("9: Whether two BLOCKS hold the same SAMPLES", BlocksTest::isLentTheSame);
        Checks.sentence("9: (not copies)", BlocksTest::isLentNotCopies);
        Checks.sentence("9: or both nothing", BlocksTest::isLentBothNothing);
        Checks.sentence("9: False: also BAD", BlocksTest::isLentBad);
        Checks.sentence("10: The LANE (what = 0), how many SAMPLES (1)", BlocksTest::ofTells);
        Checks.sentence("10: BAD", BlocksTest::ofBad);
        Checks.sentence("10: NONE", BlocksTest::ofNone);
        Checks.sentence("10: BAD; NONE (both)", BlocksTest::ofBadAheadOfNone);
        Checks.sentence("11: 0, STATE: BAD", BlocksTest::atBad);
        Checks.sentence("11: 0, STATE: NONE", BlocksTest::atNone);
        Checks.sentence("11: 0, STATE: INDEX", BlocksTest::atIndex);
        Checks.sentence("12: A SAMPLE becomes v, cast to the LANE", BlocksTest::putCasts);
        Checks.sentence("12: BAD. (STATE.)", BlocksTest::putBad);
        Checks.sentence("12: NONE. (STATE.)", BlocksTest::putNone);
        Checks.sentence("12: INDEX. (STATE.)", BlocksTest::putIndex);
        Checks.sentence("13: n SAMPLES are copied to another one", BlocksTest::copyOfEachLane);
        Checks.sentence("13: n SAMPLES (0, 40)", BlocksTest::copyOfNoneAndOfAll);
        Checks.sentence("13: (also within one)", BlocksTest::copyWithinOne);
        Checks.sentence("13: (also within one, LENT to another)", BlocksTest::copyWithinTheLent);
        Checks.sentence("13: BAD. (STATE.)", BlocksTest::copyBad);
        Checks.sentence("13: NONE. (STATE.)", BlocksTest::copyNone);
        Checks.sentence("13: STORE: unlike LANES. (STATE.)", BlocksTest::copyStore);
        Checks.sentence("13: INDEX (from). (STATE.)", BlocksTest::copyIndexFrom);
        Checks.sentence("13: INDEX (to). (STATE.)", BlocksTest::copyIndexTo);
        Checks.sentence("13: INDEX (n below 0). (STATE.)", BlocksTest::copyIndexBelowZero);
        Checks.sentence("13: BAD; NONE; STORE; INDEX (several)", BlocksTest::copyInItsOrder);
        Checks.end();
    }

    private static void tenBlocks(CallWays2 x) {
        for (int block = 0; block < 10; block++) {
            Checks.due("nothing in " + block, x.of(block, 1), NONE);
        }
        for (int block = 0; block < 10; block++) {
            Checks.due("block " + block, x.block(block, block % 4, block), 1);
        }
        for (int block = 0; block < 10; block++) {
            Checks.due("lane of " + block, x.of(block, 0), block % 4);
            Checks.due("samples of " + block, x.of(block, 1), block);
        }
    }

    private static void samplesAreZeroAtFirst(CallWays2 x) {
        for (int lane : Setups.LANES) {
            x.block(0, lane, 40);
            Checks.dueRow("lane " + lane, x, 0, new double[40]);
        }
    }

    private static void allTenHoldTheSame(CallWays2 x) {
        x.block(0, INTS, 2);
        for (int block = 1; block < 10; block++) {
            x.lend(block, block - 1, true);
        }
        for (int block = 0; block < 10; block++) {
            x.put(block, 1, block + 1);
            for (int other = 0; other < 10; other++) {
                Checks.due("put into " + block + ", at " + other, x.at(other, 1), block + 1);
            }
        }
    }

    private static void bitsOfFloats(CallWays2 x) {
        x.block(0, FLOATS, 1);
        for (int v : NUMBERS) {
            x.put(0, 0, v);
            Checks.due("float " + v, x, x.at(0, 0), Float.floatToIntBits((float) v), 0);
        }
        x.put(0, 0, -1);
        Checks.due("with sign", x.at(0, 0), -1082130432L);
        int bell = Setups.bell(x, 0);
        x.phase(bell, 1);
        x.play(bell, 0, 0, 0, 0, 1);
        Checks.due("-0.0", x.at(0, 0), (long) MIN);
    }

    private static void bitsOfDoubles(CallWays2 x) {
        x.block(0, DOUBLES, 1);
        for (int v : NUMBERS) {
            x.put(0, 0, v);
            Checks.due("double " + v, x, x.at(0, 0), Double.doubleToLongBits(v), 0);
        }
        x.put(0, 0, -1);
        Checks.due("with sign", x.at(0, 0), -4616189618054758400L);
        int bell = Setups.bell(x, 0);
        x.phase(bell, 1);
        x.play(bell, 0, 0, 0, 0, 1);
        Checks.due("-0.0", x.at(0, 0), Long.MIN_VALUE);
    }

    private static void bitsOfWholeNumbers(CallWays2 x) {
        x.block(0, INTS, 1);
        for (int v : NUMBERS) {
            x.put(0, 0, v);
            Checks.due("int " + v, x, x.at(0, 0), v, 0);
        }
        x.block(0, SHORTS, 1);
        for (int v : new int[] {0, 1, -1, 32767, -32768}) {
            x.put(0, 0, v);
            Checks.due("short " + v, x, x.at(0, 0), v, 0);
        }
    }

    private static void blockAnew(CallWays2 x) {
        Setups.fill(x, 0, INTS, 5, 6);
        x.at(0, 9);
        Checks.due("block", x.block(0, INTS, 2), 1);
        Checks.due("block() leaves state()", x.state(), INDEX);
        Checks.dueRow("new samples", x, 0, 0, 0);
        Checks.due("of another lane", x.block(0, FLOATS, 3), 1);
        Checks.due("the lane", x.of(0, 0), FLOATS);
        Checks.due("how many", x.of(0, 1), 3);
    }

    private static void blockAnewLeavesTheLent(CallWays2 x) {
        Setups.fill(x, 0, INTS, 5, 6);
        x.lend(1, 0, true);
        x.block(0, INTS, 2);
        Checks.dueRow("the other holds on", x, 1, 5, 6);
        Checks.due("no longer lent", x.isLent(0, 1), false);
    }

    private static void blockOfNoneAndOfMost(CallWays2 x) {
        for (int lane : Setups.LANES) {
            Checks.due("n 0", x.block(0, lane, 0), 1);
            Checks.due("its lane", x.of(0, 0), lane);
            Checks.due("none", x.of(0, 1), 0);
            Checks.due("n 40", x.block(0, lane, 40), 1);
            Checks.due("its lane", x.of(0, 0), lane);
            Checks.due("most", x.of(0, 1), 40);
            Checks.due("the last", x, x.put(0, 39, 1), 1, 0);
        }
    }

    private static void blockBadBlock(CallWays2 x) {
        for (int block : NO_BLOCK) {
            Checks.due("block " + block, x.block(block, INTS, 1), BAD);
        }
    }

    private static void blockBadLane(CallWays2 x) {
        Setups.fill(x, 0, INTS, 5);
        for (int lane : new int[] {-1, 4, MIN, MAX}) {
            Checks.due("lane " + lane, x.block(0, lane, 1), BAD);
            Checks.due("lane " + lane + " of nothing", x.block(1, lane, 0), BAD);
        }
        Checks.dueRow("it holds on", x, 0, 5);
        Checks.due("it holds nothing still", x.of(1, 0), NONE);
    }

    private static void blockTooLarge(CallWays2 x) {
        Setups.fill(x, 0, INTS, 5);
        for (int n : new int[] {41, MAX}) {
            Checks.due("n " + n, x.block(0, DOUBLES, n), BAD);
        }
        Checks.dueRow("it holds on", x, 0, 5);
    }

    private static void blockSize(CallWays2 x) {
        Setups.fill(x, 0, INTS, 5);
        for (int n : new int[] {-1, -41, MIN}) {
            Checks.due("n " + n, x.block(0, DOUBLES, n), SIZE);
            Checks.due("n " + n + " of nothing", x.block(1, DOUBLES, n), SIZE);
        }
        Checks.dueRow("it holds on", x, 0, 5);
        Checks.due("it holds nothing still", x.of(1, 0), NONE);
        x.at(0, 0);
        x.block(0, INTS, -1);
        Checks.due("block() leaves state()", x.state(), 0);
    }

    private static void blockBadAheadOfSize(CallWays2 x) {
        Checks.due("block 10, n -1", x.block(10, INTS, -1), BAD);
        Checks.due("lane 4, n -1", x.block(0, 4, -1), BAD);
    }

    private static void lendLent(CallWays2 x) {
        Setups.fill(x, 0, FLOATS, 5, 6);
        Setups.fill(x, 9, INTS, 1);
        Checks.due("lend", x.lend(9, 0, true), 1);
        x.put(0, 1, 7);
        Checks.dueRow("from is seen", x, 9, 5, 7);
        Checks.due("its lane", x.of(9, 0), FLOATS);
        x.put(9, 0, 8);
        Checks.dueRow("and the other way", x, 0, 8, 7);
    }

    private static void lendCopied(CallWays2 x) {
        for (int lane : Setups.LANES) {
            Setups.fill(x, 0, lane, 5, 6);
            Checks.due("lend", x.lend(1, 0, false), 1);
            x.put(0, 1, 7);
            Checks.dueRow("a copy stays", x, 1, 5, 6);
            Checks.due("its lane", x.of(1, 0), lane);
            x.put(1, 0, 8);
            Checks.dueRow("and does not reach back", x, 0, 5, 7);
        }
        x.block(0, FLOATS, 0);
        Checks.due("of 0 samples", x.lend(1, 0, false), 1);
        Checks.due("how many", x.of(1, 1), 0);
    }

    private static void lendToItself(CallWays2 x) {
        Setups.fill(x, 0, INTS, 5);
        x.lend(1, 0, true);
        Checks.due("lent", x.lend(1, 1, true), 1);
        Checks.due("still lent", x.isLent(0, 1), true);
        Checks.due("a copy", x.lend(1, 1, false), 1);
        Checks.due("no longer lent", x.isLent(0, 1), false);
        Checks.dueRow("of the same", x, 1, 5);
        Checks.due("a copy of nothing", x.lend(2, 2, false), NONE);
    }

    private static void lendBad(CallWays2 x) {
        Setups.fill(x, 0, INTS, 5);
        for (int block : NO_BLOCK) {
            for (boolean lent : new boolean[] {true, false}) {
                Checks.due("from " + block, x.lend(0, block, lent), BAD);
                Checks.due("to " + block, x.lend(block, 0, lent), BAD);
            }
        }
        Checks.dueRow("it holds on", x, 0, 5);
    }

    private static void lendNone(CallWays2 x) {
        Setups.fill(x, 0, INTS, 5);
        Checks.due("a copy of nothing", x.lend(0, 9, false), NONE);
        Checks.dueRow("it holds on", x, 0, 5);
        x.at(0, 0);
        x.lend(0, 9, false);
        Checks.due("lend() leaves state()", x.state(), 0);
    }

    private static void lendNothing(CallWays2 x) {
        Setups.fill(x, 0, INTS, 5);
        x.lend(1, 0, true);
        Checks.due("nothing, lent", x.lend(0, 9, true), 1);
        Checks.due("it holds nothing", x.of(0, 0), NONE);
        Checks.dueRow("the other holds on", x, 1, 5);
    }

    private static void lendBadAheadOfNone(CallWays2 x) {
        Checks.due("a copy of nothing to block 10", x.lend(10, 0, false), BAD);
        Checks.due("a copy of nothing to block -1", x.lend(-1, 0, false), BAD);
    }

    private static void isLentTheSame(CallWays2 x) {
        x.block(0, INTS, 1);
        Checks.due("itself", x.isLent(0, 0), true);
        x.lend(1, 0, true);
        x.lend(9, 1, true);
        Checks.due("lent on", x.isLent(9, 0), true);
        Checks.due("the other way", x.isLent(0, 9), true);
        x.block(1, INTS, 1);
        Checks.due("lent on, whoever lent it", x.isLent(9, 0), true);
        Checks.due("no longer", x.isLent(1, 0), false);
        Checks.due("isLent() leaves state()", x.state(), 0);
    }

    private static void isLentNotCopies(CallWays2 x) {
        x.block(0, INTS, 1);
        x.block(1, INTS, 1);
        Checks.due("alike", x.isLent(0, 1), false);
        x.lend(1, 0, false);
        Checks.due("a copy", x.isLent(0, 1), false);
        x.block(2, INTS, 0);
        x.lend(3, 2, false);
        Checks.due("a copy of 0 samples", x.isLent(2, 3), false);
        x.lend(3, 2, true);
        Checks.due("0 samples, lent", x.isLent(2, 3), true);
    }

    private static void isLentBothNothing(CallWays2 x) {
        Checks.due("both", x.isLent(0, 9), true);
        Checks.due("one, with itself", x.isLent(9, 9), true);
        x.block(0, INTS, 0);
        Checks.due("one of them", x.isLent(0, 9), false);
        Checks.due("the other", x.isLent(9, 0), false);
    }

    private static void isLentBad(CallWays2 x) {
        for (int block : NO_BLOCK) {
            Checks.due("both " + block, x.isLent(block, block), false);
            Checks.due("a " + block, x.isLent(block, 9), false);
            Checks.due("b " + block, x.isLent(9, block), false);
        }
    }

    private static void ofTells(CallWays2 x) {
        for (int lane : Setups.LANES) {
            x.block(9, lane, 10 + lane);
            Checks.due("the lane", x.of(9, 0), lane);
            Checks.due("how many", x.of(9, 1), 10 + lane);
        }
        Checks.due("of() leaves state()", x.state(), 0);
    }

    private static void ofBad(CallWays2 x) {
        x.block(0, INTS, 1);
        for (int block : NO_BLOCK) {
            Checks.due("block " + block, x.of(block, 0), BAD);
        }
        for (int what : new int[] {-1, 2, MIN, MAX}) {
            Checks.due("what " + what, x.of(0, what), BAD);
        }
    }

    private static void ofNone(CallWays2 x) {
        x.block(0, INTS, 1);
        x.lend(0, 9, true);
        Checks.due("the lane of nothing", x.of(0, 0), NONE);
        Checks.due("how many of nothing", x.of(0, 1), NONE);
        Checks.due("of() leaves state()", x.state(), 0);
    }

    private static void ofBadAheadOfNone(CallWays2 x) {
        Checks.due("what 2 of nothing", x.of(0, 2), BAD);
        Checks.due("what -1 of nothing", x.of(0, -1), BAD);
    }

    private static void atBad(CallWays2 x) {
        for (int block : NO_BLOCK) {
            Checks.due("block " + block, x, x.at(block, 0), 0, BAD);
        }
    }

    private static void atNone(CallWays2 x) {
        Checks.due("of nothing", x, x.at(0, 0), 0, NONE);
        Checks.due("of nothing, i -1", x, x.at(9, -1), 0, NONE);
    }

    private static void atIndex(CallWays2 x) {
        for (int lane : Setups.LANES) {
            Setups.fill(x, 0, lane, 1, 2, 3);
            for (int i : new int[] {-1, 3, 40, MIN, MAX}) {
                Checks.due("lane " + lane + ", i " + i, x, x.at(0, i), 0, INDEX);
            }
            x.block(0, lane, 0);
            Checks.due("of 0 samples", x, x.at(0, 0), 0, INDEX);
        }
        Setups.fill(x, 0, INTS, 1, 2, 3);
        Checks.due("the last", x, x.at(0, 2), 3, 0);
        Checks.due("the first", x, x.at(0, 0), 1, 0);
    }

    private static void putCasts(CallWays2 x) {
        for (int lane : Setups.LANES) {
            x.block(lane, lane, 1);
            for (int v : NUMBERS) {
                Checks.due("put " + v, x, x.put(lane, 0, v), 1, 0);
                Checks.due("at", x.at(lane, 0), castBits(lane, v));
            }
        }
    }

    private static long castBits(int lane, int v) {
        switch (lane) {
            case Setups.SHORTS: return (short) v;
            case Setups.INTS: return v;
            case Setups.FLOATS: return Float.floatToIntBits((float) v);
            default: return Double.doubleToLongBits((double) v);
        }
    }

    private static void putBad(CallWays2 x) {
        for (int block : NO_BLOCK) {
            Checks.dueRefusal("block " + block, x, x.put(block, 0, 1), BAD);
        }
    }

    private static void putNone(CallWays2 x) {
        Checks.dueRefusal("into nothing", x, x.put(0, 0, 1), NONE);
        Checks.dueRefusal("into nothing, i -1", x, x.put(9, -1, 1), NONE);
    }

    private static void putIndex(CallWays2 x) {
        for (int lane : Setups.LANES) {
            Setups.fill(x, 0, lane, 1, 2, 3);
            for (int i : new int[] {-1, 3, 40, MIN, MAX}) {
                Checks.dueRefusal("lane " + lane + ", i " + i, x, x.put(0, i, 9), INDEX);
            }
            Checks.dueRow("they stay", x, 0, 1, 2, 3);
            x.block(0, lane, 0);
            Checks.dueRefusal("of 0 samples", x, x.put(0, 0, 9), INDEX);
        }
    }

    private static void copyOfEachLane(CallWays2 x) {
        for (int lane : Setups.LANES) {
            Setups.fill(x, 0, lane, 1, 2, 3, 4, 5);
            Setups.fill(x, 1, lane, -1, -2, -3);
            Checks.due("copy", x, x.copy(0, 3, 1, 1, 2), 1, 0);
            Checks.dueRow("copied", x, 1, -1, 4, 5);
            Checks.dueRow("from stays", x, 0, 1, 2, 3, 4, 5);
            Checks.due("not lent", x.isLent(0, 1), false);
        }
    }

    private static void copyOfNoneAndOfAll(CallWays2 x) {
        Setups.fill(x, 0, INTS, 1, 2, 3);
        Setups.fill(x, 1, INTS, 4, 5, 6);
        Checks.due("none, at the ends", x, x.copy(0, 3, 1, 3, 0), 1, 0);
        Checks.dueRow("they stay", x, 1, 4, 5, 6);
        Checks.due("all", x, x.copy(0, 0, 1, 0, 3), 1, 0);
        Checks.dueRow("all copied", x, 1, 1, 2, 3);
        x.block(2, INTS, 0);
        Checks.due("none of 0 samples", x, x.copy(2, 0, 2, 0, 0), 1, 0);
        x.block(3, DOUBLES, 40);
        x.block(4, DOUBLES, 40);
        x.put(3, 39, 8);
        Checks.due("40", x, x.copy(3, 0, 4, 0, 40), 1, 0);
        Checks.due("the last", x.at(4, 39), Double.doubleToLongBits(8.0));
    }

    private static void copyWithinOne(CallWays2 x) {
        Setups.fill(x, 0, INTS, 1, 2, 3, 4, 5);
        Checks.due("forth", x, x.copy(0, 0, 0, 1, 4), 1, 0);
        Checks.dueRow("copied forth", x, 0, 1, 1, 2, 3, 4);
        Checks.due("back", x, x.copy(0, 2, 0, 0, 3), 1, 0);
        Checks.dueRow("copied back", x, 0, 2, 3, 4, 3, 4);
        Checks.due("on itself", x, x.copy(0, 0, 0, 0, 5), 1, 0);
        Checks.dueRow("the same", x, 0, 2, 3, 4, 3, 4);
    }

    private static void copyWithinTheLent(CallWays2 x) {
        Setups.fill(x, 0, INTS, 1, 2, 3, 4, 5);
        x.lend(1, 0, true);
        Checks.due("forth", x, x.copy(0, 0, 1, 1, 4), 1, 0);
        Checks.dueRow("copied forth", x, 1, 1, 1, 2, 3, 4);
        Checks.due("back", x, x.copy(1, 1, 0, 0, 4), 1, 0);
        Checks.dueRow("copied back", x, 1, 1, 2, 3, 4, 4);
    }

    private static void copyBad(CallWays2 x) {
        Setups.fill(x, 0, INTS, 1);
        for (int block : NO_BLOCK) {
            Checks.dueRefusal("from " + block, x, x.copy(block, 0, 0, 0, 0), BAD);
            Checks.dueRefusal("to " + block, x, x.copy(0, 0, block, 0, 0), BAD);
        }
    }

    private static void copyNone(CallWays2 x) {
        Setups.fill(x, 0, INTS, 1);
        Checks.dueRefusal("from nothing", x, x.copy(9, 0, 0, 0, 0), NONE);
        Checks.dueRefusal("to nothing", x, x.copy(0, 0, 9, 0, 0), NONE);
        Checks.dueRefusal("nothing to nothing", x, x.copy(8, 0, 9, 0, 0), NONE);
        Checks.dueRow("it stays", x, 0, 1);
    }

    private static void copyStore(CallWays2 x) {
        for (int lane : Setups.LANES) {
            Setups.fill(x, lane, lane, 1, 2);
        }
        for (int from : Setups.LANES) {
            for (int to : Setups.LANES) {
                if (from != to) {
                    Checks.dueRefusal(from + " to " + to, x, x.copy(from, 0, to, 1, 1), STORE);
                    Checks.dueRefusal("none of " + from + " to " + to, x, x.copy(from, 0, to, 0, 0), STORE);
                }
            }
        }
        for (int lane : Setups.LANES) {
            Checks.dueRow("they stay", x, lane, 1, 2);
        }
    }

    /** Blocks of five and of three, so that each end is met alone. */
    private static void dueCopyRefused(CallWays2 x, int from, int to, int[][] places) {
        for (int[] p : places) {
            String call = "copy i " + p[0] + ", j " + p[1] + ", n " + p[2];
            Checks.dueRefusal(call, x, x.copy(from, p[0], to, p[1], p[2]), INDEX);
        }
        Checks.dueRow("from stays", x, 0, 1, 2, 3, 4, 5);
        Checks.dueRow("to stays", x, 1, -1, -2, -3);
    }

    private static void fiveAndThree(CallWays2 x) {
        Setups.fill(x, 0, INTS, 1, 2, 3, 4, 5);
        Setups.fill(x, 1, INTS, -1, -2, -3);
    }

    private static void copyIndexFrom(CallWays2 x) {
        fiveAndThree(x);
        dueCopyRefused(x, 0, 1, new int[][] {{-1, 0, 1}, {-1, 0, 0}, {5, 0, 1}, {4, 0, 2}, {6, 0, 0}, {MAX, 0, 1}, {MAX, 0, 3},
            {MIN, 0, 0}});
        dueCopyRefused(x, 1, 0, new int[][] {{0, 0, 4}, {2, 0, 2}, {3, 0, 1}, {4, 0, 0}});
    }

    private static void copyIndexTo(CallWays2 x) {
        fiveAndThree(x);
        dueCopyRefused(x, 0, 1, new int[][] {{0, -1, 1}, {0, -1, 0}, {0, 3, 1}, {0, 2, 2}, {0, 4, 0}, {0, 0, 4}, {0, MAX, 1},
            {0, MAX, 5}, {0, MIN, 0}});
        dueCopyRefused(x, 0, 1, new int[][] {{1, 0, MAX}, {0, 1, MAX}, {MAX, MAX, MAX}, {0, 0, MAX}});
    }

    private static void copyIndexBelowZero(CallWays2 x) {
        fiveAndThree(x);
        dueCopyRefused(x, 0, 1, new int[][] {{0, 0, -1}, {5, 3, -1}, {1, 1, -1}, {0, 0, MIN}, {MAX, MAX, MIN}});
    }

    private static void copyInItsOrder(CallWays2 x) {
        Setups.fill(x, 0, INTS, 1);
        Setups.fill(x, 1, SHORTS, 1);
        Checks.dueRefusal("BAD ahead of NONE, to", x, x.copy(10, 0, 9, 0, 0), BAD);
        Checks.dueRefusal("BAD ahead of NONE, from", x, x.copy(9, 0, -1, 0, 0), BAD);
        Checks.dueRefusal("BAD ahead of INDEX", x, x.copy(0, 9, 10, 0, 1), BAD);
        Checks.dueRefusal("NONE ahead of INDEX, to", x, x.copy(0, 9, 9, 0, 1), NONE);
        Checks.dueRefusal("NONE ahead of INDEX, from", x, x.copy(9, 0, 0, 9, 1), NONE);
        Checks.dueRefusal("STORE ahead of INDEX", x, x.copy(0, 9, 1, 9, 1), STORE);
        Checks.dueRefusal("STORE ahead of INDEX, n below 0", x, x.copy(1, 0, 0, 0, -1), STORE);
        Checks.due("well again", x, x.copy(0, 0, 0, 0, 1), 1, 0);
    }
}
