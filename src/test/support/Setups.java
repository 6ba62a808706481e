/** What tests begin with: blocks with samples in them, and instruments that give them or fail. */
final class Setups {
    static final int TONE = 0, GLASS = 1, DRUM = 2, BELL = 3, READER = 4;
    static final int SHORTS = 0, INTS = 1, FLOATS = 2, DOUBLES = 3;
    static final int PLUS = 0, TIMES = 1, LESSER = 2, GREATER = 3, SAME = 4, REFUSING = 5;
    static final int MIN = Integer.MIN_VALUE, MAX = Integer.MAX_VALUE;
    static final int[] LANES = {SHORTS, INTS, FLOATS, DOUBLES};
    static final int[] CAUSES = {CallWays2.OWN, CallWays2.ZERO, CallWays2.NONE, CallWays2.KIND, CallWays2.INDEX,
        CallWays2.SIZE};
    /** The block that these instruments read from. */
    static final int TABLE = 9;

    private Setups() {
    }

    static void fill(CallWays2 x, int block, int lane, int... values) {
        x.block(block, lane, values.length);
        for (int i = 0; i < values.length; i++) {
            x.put(block, i, values[i]);
        }
    }

    /** A reader, on, that gives these values and then fails by INDEX; its table is lent by block TABLE. */
    static int reader(CallWays2 x, int... values) {
        fill(x, TABLE, INTS, values);
        int reader = x.instrument(READER);
        x.note(reader, 0, true);
        x.table(reader, TABLE, true);
        return reader;
    }

    /** A glass that gives one value for ever. */
    static int steady(CallWays2 x, int value) {
        int glass = x.instrument(GLASS);
        x.knob(glass, 0, value);
        return glass;
    }

    static int drum(CallWays2 x, int level, int divisor) {
        int drum = x.instrument(DRUM);
        x.knob(drum, 1, divisor);
        x.note(drum, level, true);
        return drum;
    }

    /** A bell that keeps its level and does not fail at the phases from 0 on. */
    static int bell(CallWays2 x, int level) {
        int bell = x.instrument(BELL);
        x.knob(bell, 1, 1);
        x.knob(bell, 2, -1);
        x.note(bell, level, true);
        return bell;
    }

    /** An instrument whose next sample fails by this cause. */
    static int failing(CallWays2 x, int cause) {
        int instrument = x.instrument(cause == CallWays2.OWN ? BELL : cause == CallWays2.ZERO ? DRUM : READER);
        if (cause == CallWays2.SIZE) {
            x.phase(instrument, -1);
        }
        if (cause == CallWays2.KIND || cause == CallWays2.INDEX) {
            x.block(TABLE, cause == CallWays2.KIND ? DOUBLES : INTS, 0);
            x.table(instrument, TABLE, false);
        }
        return instrument;
    }
}
