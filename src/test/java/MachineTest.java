import java.lang.reflect.Array;
import java.util.Random;
import java.util.function.DoubleUnaryOperator;

/**
 * Runs of mixed calls, answered twice: by CallWays2, and by a writing of the document in which the Java machine
 * itself refuses, casts and tells bits. The seeds are fixed, so each run is the same every time.
 */
public final class MachineTest {
    /** All calls of a run are counted: what an object answers behind its 512th is free. */
    private static final int RUNS = 8000, CALLS = 512, CALLS_AT_THE_END = 100;

    /** What an instrument or a function has against a sample by itself. */
    private static final class Own extends RuntimeException {
        private static final long serialVersionUID = 1L;

        Own() {
            super(null, null, false, false);
        }
    }

    private abstract static class Player implements Cloneable {
        int[] knobs = new int[4];
        int pitch, phase;
        boolean on;
        double level;
        Object table;

        abstract double sound();

        double sample() {
            try {
                return sound();
            } finally {
                phase++;
            }
        }

        Player twin() {
            try {
                Player twin = (Player) clone();
                twin.knobs = knobs.clone();
                return twin;
            } catch (CloneNotSupportedException e) {
                throw new IllegalStateException(e);
            }
        }
    }

    private static class TonePlayer extends Player {
        double sound() {
            return on ? (phase * pitch) % 256 - 128 : 0;
        }
    }

    private static class GlassPlayer extends TonePlayer {
        double sound() {
            return 2.0 * super.sound() + knobs[0];
        }
    }

    private static class DrumPlayer extends Player {
        double sound() {
            double was = level;
            level = level * (double) (1000 / knobs[1]) / 1000.0;
            return was;
        }
    }

    private static class BellPlayer extends DrumPlayer {
        double sound() {
            if (phase == knobs[2]) {
                throw new Own();
            }
            double sound = super.sound();
            return phase % 2 == 0 ? sound : -1.0 * sound;
        }
    }

    private static class ReaderPlayer extends Player {
        double sound() {
            if (!on) {
                int[] row = new int[phase % 8];
            }
            if (table == null) {
                throw new NullPointerException();
            }
            return ((int[]) table)[phase + knobs[0]];
        }
    }

    private static int cause(RuntimeException e) {
        if (e instanceof Own) {
            return CallWays2.OWN;
        }
        if (e instanceof ArithmeticException) {
            return CallWays2.ZERO;
        }
        if (e instanceof NullPointerException) {
            return CallWays2.NONE;
        }
        if (e instanceof ClassCastException) {
            return CallWays2.KIND;
        }
        if (e instanceof IndexOutOfBoundsException) {
            return CallWays2.INDEX;
        }
        if (e instanceof NegativeArraySizeException) {
            return CallWays2.SIZE;
        }
        if (e instanceof ArrayStoreException) {
            return CallWays2.STORE;
        }
        throw e;
    }

    private static DoubleUnaryOperator operator(int kind, double a) {
        switch (kind) {
            case 0: return x -> x + a;
            case 1: return x -> x * a;
            case 2: return x -> Math.min(x, a);
            case 3: return x -> Math.max(x, a);
            case 4: return x -> x;
            default: return x -> {
                if (x == a) {
                    throw new Own();
                }
                return x;
            };
        }
    }

    private static final Class<?>[] LANES = {short.class, int.class, float.class, double.class};

    private static int lane(Object samples) {
        for (int lane = 0; lane < 4; lane++) {
            if (samples.getClass().getComponentType() == LANES[lane]) {
                return lane;
            }
        }
        throw new IllegalStateException();
    }

    private static Object twin(Object samples) {
        if (samples == null) {
            return null;
        }
        int n = Array.getLength(samples);
        Object twin = Array.newInstance(samples.getClass().getComponentType(), n);
        System.arraycopy(samples, 0, twin, 0, n);
        return twin;
    }

    private static void set(Object samples, int i, double x) {
        switch (lane(samples)) {
            case 0: ((short[]) samples)[i] = (short) x; break;
            case 1: ((int[]) samples)[i] = (int) x; break;
            case 2: ((float[]) samples)[i] = (float) x; break;
            default: ((double[]) samples)[i] = x; break;
        }
    }

    private static long bits(Object samples, int i) {
        switch (lane(samples)) {
            case 0: return ((short[]) samples)[i];
            case 1: return ((int[]) samples)[i];
            case 2: return Float.floatToIntBits(((float[]) samples)[i]);
            default: return Double.doubleToLongBits(((double[]) samples)[i]);
        }
    }

    /** The document's calls, by number, each with arguments a[0], a[1] .. */
    private static final class Machine {
        final Player[] players = new Player[12];
        final Object[] blocks = new Object[10];
        final DoubleUnaryOperator[] operators = new DoubleUnaryOperator[8];
        final int[] counts = new int[5];
        int bound = -1, state = 0;

        boolean noPlayer(int i) {
            return i < 0 || i >= counts[0];
        }

        boolean noOperator(int i) {
            return i < 0 || i >= counts[1];
        }

        static boolean noBlock(int i) {
            return i < 0 || i >= 10;
        }

        long said(int cause, long answer) {
            state = cause;
            return answer;
        }

        long instrument(int sort) {
            if (sort < 0 || sort > 4) {
                return CallWays2.BAD;
            }
            if (counts[0] == 12) {
                return CallWays2.FULL;
            }
            Player[] fresh = {new TonePlayer(), new GlassPlayer(), new DrumPlayer(), new BellPlayer(), new ReaderPlayer()};
            players[counts[0]] = fresh[sort];
            return counts[0]++;
        }

        long note(int i, int pitch, boolean on) {
            if (noPlayer(i) || pitch < 0 || pitch > 127) {
                return CallWays2.BAD;
            }
            Player p = players[i];
            long was = p.on ? 1 : 0;
            p.pitch = pitch;
            p.on = on;
            if (on && p instanceof DrumPlayer) {
                p.level = pitch;
            }
            return was;
        }

        long knob(int i, int k, int v) {
            if (noPlayer(i) || k < 0 || k > 3) {
                return said(CallWays2.BAD, 0);
            }
            int was = players[i].knobs[k];
            players[i].knobs[k] = v;
            return said(0, was);
        }

        long phase(int i, int v) {
            if (noPlayer(i)) {
                return said(CallWays2.BAD, 0);
            }
            int was = players[i].phase;
            players[i].phase = v;
            return said(0, was);
        }

        long table(int i, int block, boolean lent) {
            if (noPlayer(i) || block != -1 && noBlock(block)) {
                return CallWays2.BAD;
            }
            Object held = block == -1 ? null : blocks[block];
            players[i].table = lent ? held : twin(held);
            return 1;
        }

        long block(int block, int lane, int n) {
            if (noBlock(block) || lane < 0 || lane > 3 || n > 40) {
                return CallWays2.BAD;
            }
            try {
                blocks[block] = Array.newInstance(LANES[lane], n);
                return 1;
            } catch (RuntimeException e) {
                return cause(e);
            }
        }

        long lend(int block, int from, boolean lent) {
            if (noBlock(block) || noBlock(from)) {
                return CallWays2.BAD;
            }
            if (!lent && blocks[from] == null) {
                return CallWays2.NONE;
            }
            blocks[block] = lent ? blocks[from] : twin(blocks[from]);
            return 1;
        }

        long of(int block, int what) {
            if (noBlock(block) || what != 0 && what != 1) {
                return CallWays2.BAD;
            }
            if (blocks[block] == null) {
                return CallWays2.NONE;
            }
            return what == 0 ? lane(blocks[block]) : Array.getLength(blocks[block]);
        }

        long at(int block, int i) {
            try {
                return noBlock(block) ? said(CallWays2.BAD, 0) : said(0, bits(blocks[block], i));
            } catch (RuntimeException e) {
                return said(cause(e), 0);
            }
        }

        long put(int block, int i, int v) {
            if (noBlock(block)) {
                return said(CallWays2.BAD, CallWays2.BAD);
            }
            try {
                Object held = blocks[block];
                switch (lane(held)) {
                    case 0: ((short[]) held)[i] = (short) v; break;
                    case 1: ((int[]) held)[i] = v; break;
                    case 2: ((float[]) held)[i] = (float) v; break;
                    default: ((double[]) held)[i] = v; break;
                }
                return said(0, 1);
            } catch (RuntimeException e) {
                return said(cause(e), cause(e));
            }
        }

        long copy(int from, int i, int to, int j, int n) {
            if (noBlock(from) || noBlock(to)) {
                return said(CallWays2.BAD, CallWays2.BAD);
            }
            try {
                System.arraycopy(blocks[from], i, blocks[to], j, n);
                return said(0, 1);
            } catch (RuntimeException e) {
                return said(cause(e), cause(e));
            }
        }

        long bind(int lane) {
            if (lane < 0 || lane > 3) {
                return -2;
            }
            int was = bound;
            bound = lane;
            return was;
        }

        long function(int kind, int a) {
            if (kind < 0 || kind > 5) {
                return CallWays2.BAD;
            }
            if (counts[1] == 8) {
                return CallWays2.FULL;
            }
            operators[counts[1]] = operator(kind, a);
            return counts[1]++;
        }

        long play(int i, int way, int f, int block, int from, int n) {
            if (noPlayer(i) || way < 0 || way > 2 || noBlock(block) || way == 2 && noOperator(f)) {
                return said(CallWays2.BAD, CallWays2.BAD);
            }
            int against = against(blocks[block], way, from, n);
            if (against != 0) {
                counts[3]++;
                return said(against, against);
            }
            Object row = Array.newInstance(blocks[block].getClass().getComponentType(), n);
            int cause = 0;
            try {
                for (int k = 0; k < n; k++) {
                    counts[4]++;
                    double x = players[i].sample();
                    set(row, k, way == 2 ? operators[f].applyAsDouble(x) : x);
                }
            } catch (RuntimeException e) {
                cause = cause(e);
                row = Array.newInstance(blocks[block].getClass().getComponentType(), n);
            }
            System.arraycopy(row, 0, blocks[block], from, n);
            counts[cause == 0 ? 2 : 3]++;
            return said(cause, cause == 0 ? n : cause);
        }

        int against(Object held, int way, int from, int n) {
            if (held == null) {
                return CallWays2.NONE;
            }
            if (way == 1 && bound != lane(held)) {
                return CallWays2.KIND;
            }
            if (n < 0) {
                return CallWays2.SIZE;
            }
            return from < 0 || (long) from + n > Array.getLength(held) ? CallWays2.INDEX : 0;
        }

        boolean agree(int i, int f, int n) {
            if (noPlayer(i) || noOperator(f) || n < 0 || n > 40) {
                return false;
            }
            Player plain = players[i].twin();
            Player through = players[i].twin();
            for (int k = 0; k < n; k++) {
                double x = 0, y = 0;
                int causeX = 0, causeY = 0;
                try {
                    x = plain.sample();
                } catch (RuntimeException e) {
                    causeX = cause(e);
                }
                try {
                    y = operators[f].applyAsDouble(through.sample());
                } catch (RuntimeException e) {
                    causeY = cause(e);
                }
                if (causeX != 0 || causeY != 0) {
                    return causeX == causeY;
                }
                if (x != y) {
                    return false;
                }
            }
            return true;
        }

        int find(int x, int y) {
            for (int f = 0; f < counts[1]; f++) {
                try {
                    if (operators[f].applyAsDouble(x) == y) {
                        return f;
                    }
                } catch (Own e) {
                    continue;
                }
            }
            return -1;
        }

        long next(int i) {
            if (noPlayer(i)) {
                return said(CallWays2.BAD, 0);
            }
            try {
                return said(0, Double.doubleToLongBits(players[i].twin().sample()));
            } catch (RuntimeException e) {
                return said(cause(e), 0);
            }
        }
    }

    /** Draws arguments: mostly such that a call can be met, at times at an edge or beyond it. */
    private static final class Draw {
        final Random random;

        Draw(long seed) {
            random = new Random(seed);
        }

        int below(int n) {
            return random.nextInt(n);
        }

        boolean yes() {
            return random.nextBoolean();
        }

        /** 0 to most, or, at one time of sixteen, a little outside. */
        int upTo(int most) {
            return below(16) > 0 ? below(most + 1) : yes() ? -1 - below(2) : most + 1 + below(2);
        }

        int value() {
            switch (below(8)) {
                case 0: return random.nextInt();
                case 1: return Integer.MAX_VALUE - below(3);
                case 2: return Integer.MIN_VALUE + below(3);
                case 3: return below(2001) - 1000;
                default: return below(21) - 10;
            }
        }

        int place() {
            return below(24) == 0 ? value() : below(9) - 1 + (below(8) == 0 ? 35 : 0);
        }

        int length() {
            return below(24) == 0 ? value() : below(4) == 0 ? below(42) - 1 : below(8);
        }
    }

    private final CallWays2 x = new CallWays2();
    private final Machine m = new Machine();
    private final Draw d;
    private String call = "";
    private long got, want;
    private int calls, compared;

    private MachineTest(long seed) {
        d = new Draw(seed);
    }

    private void answered(String name, long answer, long due, int... a) {
        StringBuilder text = new StringBuilder(name);
        for (int v : a) {
            text.append(' ').append(v);
        }
        call = text.toString();
        got = answer;
        want = due;
    }

    private void oneCall() {
        int pick = d.below(40);
        int i = d.below(8) == 0 ? d.upTo(11) : d.below(Math.max(1, m.counts[0]));
        int b = d.below(3) == 0 ? d.upTo(9) : d.below(4);
        int c = d.below(3) == 0 ? d.upTo(9) : d.below(4);
        int f = d.below(8) == 0 ? d.upTo(7) : d.below(Math.max(1, m.counts[1]));
        boolean yes = d.yes();
        if (pick < 10) {
            setCalls(pick, i, b, yes);
        } else if (pick < 24) {
            blockCalls(pick, b, c, yes);
        } else {
            playCalls(pick, i, b, f);
        }
    }

    private void setCalls(int pick, int i, int b, boolean yes) {
        int v = d.value();
        if (pick < 2) {
            int sort = d.upTo(4);
            answered("instrument", x.instrument(sort), m.instrument(sort), sort);
        } else if (pick < 4) {
            int pitch = d.upTo(127);
            answered("note", x.note(i, pitch, yes), m.note(i, pitch, yes), i, pitch, yes ? 1 : 0);
        } else if (pick < 6) {
            int k = d.upTo(3);
            answered("knob", x.knob(i, k, v), m.knob(i, k, v), i, k, v);
        } else if (pick < 8) {
            answered("phase", x.phase(i, v), m.phase(i, v), i, v);
        } else {
            int t = d.below(8) == 0 ? -1 : b;
            answered("table", x.table(i, t, yes), m.table(i, t, yes), i, t, yes ? 1 : 0);
        }
    }

    private void blockCalls(int pick, int b, int c, boolean yes) {
        int p = d.place();
        int q = d.place();
        int n = d.length();
        int v = d.value();
        int lane = d.upTo(3);
        if (pick < 13) {
            answered("block", x.block(b, lane, n), m.block(b, lane, n), b, lane, n);
        } else if (pick < 14) {
            answered("lend", x.lend(b, c, yes), m.lend(b, c, yes), b, c, yes ? 1 : 0);
        } else if (pick < 15) {
            boolean same = !Machine.noBlock(b) && !Machine.noBlock(c) && m.blocks[b] == m.blocks[c];
            answered("isLent", x.isLent(b, c) ? 1 : 0, same ? 1 : 0, b, c);
        } else if (pick < 16) {
            int what = d.upTo(1);
            answered("of", x.of(b, what), m.of(b, what), b, what);
        } else if (pick < 19) {
            answered("at", x.at(b, p), m.at(b, p), b, p);
        } else if (pick < 21) {
            answered("put", x.put(b, p, v), m.put(b, p, v), b, p, v);
        } else if (pick < 23) {
            answered("copy", x.copy(b, p, c, q, n), m.copy(b, p, c, q, n), b, p, c, q, n);
        } else {
            answered("bind", x.bind(lane), m.bind(lane), lane);
        }
    }

    private void playCalls(int pick, int i, int b, int f) {
        int n = d.length();
        int v = d.value();
        if (pick < 26) {
            int kind = d.upTo(5);
            answered("function", x.function(kind, v), m.function(kind, v), kind, v);
        } else if (pick < 35) {
            int way = d.upTo(2);
            int from = d.yes() ? 0 : d.place();
            answered("play", x.play(i, way, f, b, from, n), m.play(i, way, f, b, from, n), i, way, f, b, from, n);
        } else if (pick < 37) {
            answered("agree", x.agree(i, f, n) ? 1 : 0, m.agree(i, f, n) ? 1 : 0, i, f, n);
        } else if (pick < 38) {
            int y = d.value();
            answered("find", x.find(v, y), m.find(v, y), v, y);
        } else {
            answered("next", x.next(i), m.next(i), i);
        }
    }

    private void compare(String where) {
        Checks.due(where, got, want);
        Checks.due(where + ", state()", x.state(), m.state);
        calls += 2;
        compared++;
        if (compared % 4 == 0) {
            compareCount(where, compared / 4 % 5);
        }
    }

    private void compareCount(String where, int what) {
        Checks.due(where + ", count(" + what + ")", x.count(what), m.counts[what]);
        calls++;
    }

    /** Counts first, then samples, from another block on in each run, as far as the calls reach. */
    private void compareAtTheEnd(int run) {
        String where = "run " + run + ", at the end";
        for (int what = 0; what < 5; what++) {
            compareCount(where, what);
        }
        for (int k = 0; k < 10; k++) {
            int b = (run + k) % 10;
            for (int i = 0; m.blocks[b] != null && i < Array.getLength(m.blocks[b]) && calls < CALLS; i++) {
                Checks.due(where + ", at(" + b + ", " + i + ")", x.at(b, i), bits(m.blocks[b], i));
                calls++;
            }
        }
    }

    public static void main(String[] args) {
        int[] outcomes = new int[10];
        for (int run = 0; run < RUNS; run++) {
            MachineTest test = new MachineTest(run);
            while (test.calls < CALLS - CALLS_AT_THE_END) {
                test.oneCall();
                test.compare("run " + run + ", call " + test.calls + ", " + test.call);
                outcomes[-test.m.state]++;
            }
            test.compareAtTheEnd(run);
        }
        for (int cause : new int[] {0, 1, 3, 4, 5, 6, 7, 8, 9}) {
            Checks.due("outcome -" + cause + " was met", outcomes[cause] > 1000, true);
        }
        Checks.end();
    }
}
