/** Instruments that play their samples into blocks; DOC.md's promises say what each call answers. */
public final class CallWays2 {
    public static final int BAD = -1, FULL = -2, OWN = -3, ZERO = -4, NONE = -5, KIND = -6, INDEX = -7, SIZE = -8, STORE = -9;

    private static final int SHORTS = 0, INTS = 1, FLOATS = 2, DOUBLES = 3;
    private static final int TONE = 0, GLASS = 1, DRUM = 2, BELL = 3, READER = 4;
    private static final int BY_MEMBERS = 0, BY_HANDLE = 1, BY_FUNCTION = 2;
    private static final int PLUS = 0, TIMES = 1, LESSER = 2, GREATER = 3, REFUSING = 5;
    private static final int BLOCKS = 10, INSTRUMENTS = 12, FUNCTIONS = 8;
    private static final int MOST_SAMPLES = 40, KNOBS = 4, HIGHEST_PITCH = 127, UNBOUND = -1;

    private final Instrument[] instruments;
    private final Samples[] blocks;
    private final Function[] functions;
    /** Samples wait here until all have come, as they reach their block all at once. */
    private final double[] waiting;
    private int instrumentCount;
    private int functionCount;
    private int boundLane;
    private int latest;
    private int playedWell;
    private int playedFailed;
    private int samplesAsked;

    public CallWays2() {
        instruments = new Instrument[INSTRUMENTS];
        blocks = new Samples[BLOCKS];
        functions = new Function[FUNCTIONS];
        waiting = new double[MOST_SAMPLES];
        boundLane = UNBOUND;
    }

    public int instrument(int sort) {
        if (sort < TONE || sort > READER) {
            return BAD;
        }
        if (instrumentCount >= INSTRUMENTS) {
            return FULL;
        }
        instruments[instrumentCount] = newInstrument(sort);
        instrumentCount++;
        return instrumentCount - 1;
    }

    public int note(int instrument, int pitch, boolean on) {
        Instrument player = instrumentAt(instrument);
        if (player == null || pitch < 0 || pitch > HIGHEST_PITCH) {
            return BAD;
        }
        int was = player.on ? 1 : 0;
        player.strike(pitch, on);
        return was;
    }

    public int knob(int instrument, int k, int v) {
        Instrument player = instrumentAt(instrument);
        if (player == null || k < 0 || k >= KNOBS) {
            latest = BAD;
            return 0;
        }
        int was = player.knobs[k];
        player.knobs[k] = v;
        latest = 0;
        return was;
    }

    public int phase(int instrument, int v) {
        Instrument player = instrumentAt(instrument);
        if (player == null) {
            latest = BAD;
            return 0;
        }
        int was = player.phase;
        player.phase = v;
        latest = 0;
        return was;
    }

    public int table(int instrument, int block, boolean lent) {
        Instrument player = instrumentAt(instrument);
        if (player == null || block != -1 && !isBlock(block)) {
            return BAD;
        }
        player.table = lentOrTwin(heldBy(block), lent);
        return 1;
    }

    public int block(int block, int lane, int n) {
        if (!isBlock(block) || !isLane(lane) || n > MOST_SAMPLES) {
            return BAD;
        }
        if (n < 0) {
            return SIZE;
        }
        blocks[block] = new Samples(lane, new double[n]);
        return 1;
    }

    public int lend(int block, int from, boolean lent) {
        if (!isBlock(block) || !isBlock(from)) {
            return BAD;
        }
        Samples held = heldBy(from);
        if (held == null && !lent) {
            return NONE;
        }
        blocks[block] = lentOrTwin(held, lent);
        return 1;
    }

    public boolean isLent(int a, int b) {
        return isBlock(a) && isBlock(b) && heldBy(a) == heldBy(b);
    }

    public int of(int block, int what) {
        if (!isBlock(block) || what < 0 || what > 1) {
            return BAD;
        }
        Samples held = heldBy(block);
        if (held == null) {
            return NONE;
        }
        return what == 0 ? held.lane : held.values.length;
    }

    public long at(int block, int i) {
        latest = againstPlace(block, i);
        return latest == 0 ? blocks[block].bits(i) : 0L;
    }

    public int put(int block, int i, int v) {
        latest = againstPlace(block, i);
        if (latest != 0) {
            return latest;
        }
        blocks[block].set(i, v);
        return 1;
    }

    public int copy(int from, int i, int to, int j, int n) {
        Samples source = heldBy(from);
        Samples target = heldBy(to);
        if (!isBlock(from) || !isBlock(to)) {
            latest = BAD;
        } else if (source == null || target == null) {
            latest = NONE;
        } else if (source.lane != target.lane) {
            latest = STORE;
        } else if (!source.spans(i, n) || !target.spans(j, n)) {
            latest = INDEX;
        } else {
            System.arraycopy(source.values, i, target.values, j, n);
            latest = 0;
        }
        return latest == 0 ? 1 : latest;
    }

    public int bind(int lane) {
        if (!isLane(lane)) {
            // BAD's own number already says that the handle was bound to none
            return -2;
        }
        int was = boundLane;
        boundLane = lane;
        return was;
    }

    public int function(int kind, int a) {
        if (kind < PLUS || kind > REFUSING) {
            return BAD;
        }
        if (functionCount >= FUNCTIONS) {
            return FULL;
        }
        functions[functionCount] = new Function(kind, a);
        functionCount++;
        return functionCount - 1;
    }

    public int play(int instrument, int way, int f, int block, int from, int n) {
        Instrument player = instrumentAt(instrument);
        Function through = way == BY_FUNCTION ? functionAt(f) : null;
        boolean wayStands = way == BY_MEMBERS || way == BY_HANDLE || through != null;
        if (player == null || !wayStands || !isBlock(block)) {
            latest = BAD;
            return BAD;
        }
        Samples into = heldBy(block);
        int failure = againstBlock(into, way, from, n);
        if (failure == 0) {
            failure = gather(player, through, n);
            deliver(into, from, n, failure);
        }
        latest = failure;
        if (failure != 0) {
            playedFailed++;
            return failure;
        }
        playedWell++;
        return n;
    }

    public boolean agree(int instrument, int f, int n) {
        Instrument player = instrumentAt(instrument);
        Function through = functionAt(f);
        if (player == null || through == null || n < 0 || n > MOST_SAMPLES) {
            return false;
        }
        int phase = player.phase;
        double level = player.level;
        boolean alike = staysAlike(player, through, n);
        player.goBack(phase, level);
        return alike;
    }

    public int find(int x, int y) {
        for (int i = 0; i < functionCount; i++) {
            if (!functions[i].refuses(x) && functions[i].pass(x) == y) {
                return i;
            }
        }
        return -1;
    }

    public long next(int instrument) {
        Instrument player = instrumentAt(instrument);
        if (player == null) {
            latest = BAD;
            return 0L;
        }
        int phase = player.phase;
        double level = player.level;
        double sample = player.ask();
        player.goBack(phase, level);
        latest = player.failure;
        return latest == 0 ? Bits.ofDouble(sample) : 0L;
    }

    public int state() {
        return latest;
    }

    public int count(int what) {
        switch (what) {
            case 0: return instrumentCount;
            case 1: return functionCount;
            case 2: return playedWell;
            case 3: return playedFailed;
            case 4: return samplesAsked;
            default: return BAD;
        }
    }

    private static boolean isBlock(int block) {
        return block >= 0 && block < BLOCKS;
    }

    private static boolean isLane(int lane) {
        return lane >= SHORTS && lane <= DOUBLES;
    }

    private Instrument instrumentAt(int i) {
        return i >= 0 && i < instrumentCount ? instruments[i] : null;
    }

    private Function functionAt(int i) {
        return i >= 0 && i < functionCount ? functions[i] : null;
    }

    private Samples heldBy(int block) {
        return isBlock(block) ? blocks[block] : null;
    }

    private static Instrument newInstrument(int sort) {
        switch (sort) {
            case GLASS: return new Glass();
            case DRUM: return new Drum();
            case BELL: return new Bell();
            case READER: return new Reader();
            default: return new Tone();
        }
    }

    private static Samples lentOrTwin(Samples held, boolean lent) {
        return held == null || lent ? held : held.twin();
    }

    /** What speaks against sample i of a block, or 0: then both stand. */
    private int againstPlace(int block, int i) {
        if (!isBlock(block)) {
            return BAD;
        }
        Samples held = blocks[block];
        if (held == null) {
            return NONE;
        }
        return held.has(i) ? 0 : INDEX;
    }

    /** What speaks against playing into a block, or 0: then it holds something that has room for n. */
    private int againstBlock(Samples into, int way, int from, int n) {
        if (into == null) {
            return NONE;
        }
        if (way == BY_HANDLE && into.lane != boundLane) {
            return KIND;
        }
        if (n < 0) {
            return SIZE;
        }
        return into.spans(from, n) ? 0 : INDEX;
    }

    /** Asks for n samples (through a function, if there is one) and keeps them waiting: 0, or the failure that ended it. */
    private int gather(Instrument player, Function through, int n) {
        for (int i = 0; i < n; i++) {
            double sample = player.ask();
            samplesAsked++;
            if (player.failure != 0) {
                return player.failure;
            }
            if (through != null && through.refuses(sample)) {
                return OWN;
            }
            waiting[i] = through == null ? sample : through.pass(sample);
        }
        return 0;
    }

    private void deliver(Samples into, int from, int n, int failure) {
        for (int i = 0; i < n; i++) {
            into.set(from + i, failure == 0 ? waiting[i] : 0.0);
        }
    }

    /**
     * One player serves for both copies: a copy gives the same samples and failures in either way,
     * so that only the function can part the two ways.
     */
    private static boolean staysAlike(Instrument player, Function through, int n) {
        for (int i = 0; i < n; i++) {
            double sample = player.ask();
            if (player.failure != 0) {
                return true;
            }
            if (through.refuses(sample) || through.pass(sample) != sample) {
                return false;
            }
        }
        return true;
    }

    /** Samples of one lane. A double holds each value of every lane exactly, so one kind of array serves all four. */
    private static final class Samples {
        final int lane;
        final double[] values;

        Samples(int lane, double[] values) {
            this.lane = lane;
            this.values = values;
        }

        Samples twin() {
            return new Samples(lane, values.clone());
        }

        boolean has(int i) {
            return i >= 0 && i < values.length;
        }

        /** Compared by a difference, as the sum of from and n may wrap around. */
        boolean spans(int from, int n) {
            return from >= 0 && n >= 0 && n <= values.length && from <= values.length - n;
        }

        /** Of a place that has(i) tells to be there, as is that of bits(). */
        void set(int i, double x) {
            values[i] = turned(x);
        }

        private double turned(double x) {
            switch (lane) {
                case SHORTS: return (short) (int) x;
                case INTS: return (int) x;
                case FLOATS: return (float) x;
                default: return x;
            }
        }

        long bits(int i) {
            switch (lane) {
                case FLOATS: return Bits.ofFloat(values[i]);
                case DOUBLES: return Bits.ofDouble(values[i]);
                default: return (long) values[i];
            }
        }
    }

    /**
     * The bits of numbers, found by arithmetic, as LANGUAGE.md leaves no library for them. No number here is
     * infinite or NaN: levels stay within 127 of 0, and what functions make of ints and levels within 2 to the 63rd.
     */
    private static final class Bits {
        static long ofDouble(double x) {
            return (isNegative(x) ? Long.MIN_VALUE : 0L) | magnitude(x < 0.0 ? -x : x, 1023, 52);
        }

        /** Of a float that is held as a double. */
        static int ofFloat(double x) {
            return (isNegative(x) ? Integer.MIN_VALUE : 0) | (int) magnitude(x < 0.0 ? -x : x, 127, 23);
        }

        /** Only a division tells -0.0 from 0.0. */
        private static boolean isNegative(double x) {
            return x < 0.0 || x == 0.0 && 1.0 / x < 0.0;
        }

        private static long magnitude(double x, int bias, int places) {
            if (x == 0.0) {
                return 0L;
            }
            double m = x;
            int exponent = bias;
            while (m >= 2.0 && exponent < 2 * bias) {
                m = m / 2.0;
                exponent++;
            }
            // a level that has faded for long is far below 1: long steps first
            while (m * 18446744073709551616.0 < 1.0 && exponent > 64) {
                m = m * 18446744073709551616.0;
                exponent -= 64;
            }
            while (m < 1.0 && exponent > 1) {
                m = m * 2.0;
                exponent--;
            }
            // added, not joined: the leading 1 of m counts the exponent up, and a number too small to have one leaves it 0
            return ((long) (exponent - 1) << places) + (long) (m * (double) (1L << places));
        }
    }

    private static final class Function {
        private final int kind;
        private final double a;

        Function(int kind, int a) {
            this.kind = kind;
            this.a = a;
        }

        boolean refuses(double x) {
            return kind == REFUSING && x == a;
        }

        /** -0.0 is the lesser of -0.0 and 0.0, as for the machine's own min and max; a is never -0.0. */
        double pass(double x) {
            switch (kind) {
                case PLUS: return x + a;
                case TIMES: return x * a;
                case LESSER: return x <= a ? x : a;
                case GREATER: return x > a ? x : a;
                default: return x;
            }
        }
    }

    private abstract static class Instrument {
        final int[] knobs = new int[KNOBS];
        int pitch;
        boolean on;
        int phase;
        double level;
        Samples table;
        /** What the latest sample that was asked came to: 0, or its failure. */
        int failure;

        /** The sample at this phase; one that fails goes through fail(). */
        abstract double give();

        void strike(int newPitch, boolean nowOn) {
            pitch = newPitch;
            on = nowOn;
        }

        final double ask() {
            failure = 0;
            double sample = give();
            phase++;
            return sample;
        }

        final double fail(int cause) {
            failure = cause;
            return 0.0;
        }

        /** Phase and level are all that asking changes. */
        final void goBack(int oldPhase, double oldLevel) {
            phase = oldPhase;
            level = oldLevel;
        }
    }

    private static class Tone extends Instrument {
        double give() {
            return on ? phase * pitch % 256 - 128 : 0;
        }
    }

    private static final class Glass extends Tone {
        double give() {
            return 2.0 * super.give() + knobs[0];
        }
    }

    private static class Drum extends Instrument {
        void strike(int newPitch, boolean nowOn) {
            super.strike(newPitch, nowOn);
            if (nowOn) {
                level = newPitch;
            }
        }

        double give() {
            int divisor = knobs[1];
            if (divisor == 0) {
                return fail(ZERO);
            }
            double sample = level;
            level = level * (double) (1000 / divisor) / 1000.0;
            return sample;
        }
    }

    private static final class Bell extends Drum {
        double give() {
            if (phase == knobs[2]) {
                return fail(OWN);
            }
            double sample = super.give();
            return (phase & 1) == 0 ? sample : -1.0 * sample;
        }
    }

    private static final class Reader extends Instrument {
        double give() {
            // of the row that is made ahead and let go, only its refusal can be seen
            if (!on && phase % 8 < 0) {
                return fail(SIZE);
            }
            if (table == null) {
                return fail(NONE);
            }
            if (table.lane != INTS) {
                return fail(KIND);
            }
            int place = phase + knobs[0];
            return table.has(place) ? table.values[place] : fail(INDEX);
        }
    }
}
