/** Promises 1 to 6 and 19: instruments, what is set on them, and the samples that each sort gives. */
public final class InstrumentsTest {
    private static final int TONE = 0, GLASS = 1, DRUM = 2, BELL = 3, READER = 4, INTS = 1;
    private static final int BAD = CallWays2.BAD, OWN = CallWays2.OWN, ZERO = CallWays2.ZERO, NONE = CallWays2.NONE,
            KIND = CallWays2.KIND, INDEX = CallWays2.INDEX, SIZE = CallWays2.SIZE;

    public static void main(String[] args) {
        promise1NewObject();
        promise2Instrument();
        promise3Note();
        promise4Knob();
        promise5Phase();
        promise6Table();
        tone();
        glass();
        drum();
        drumFadesToNothing();
        bell();
        reader();
        readerRefusesInItsOrder();
        promise19Next();
        Checks.end();
    }

    private static CallWays2 with(int sort) {
        CallWays2 x = new CallWays2();
        Checks.due("instrument(" + sort + ")", x.instrument(sort), 0);
        return x;
    }

    private static void dueNext(CallWays2 x, String where, double want) {
        Checks.due(where + ": next(0)", x, x.next(0), Double.doubleToLongBits(want), 0);
    }

    private static void dueFailure(CallWays2 x, String where, int cause) {
        Checks.due(where + ": next(0)", x, x.next(0), 0, cause);
    }

    private static void promise1NewObject() {
        CallWays2 x = new CallWays2();
        for (int what = 0; what <= 4; what++) {
            Checks.due("new: count(" + what + ")", x.count(what), 0);
        }
        Checks.due("new: state()", x.state(), 0);
        for (int block = 0; block < 10; block++) {
            Checks.due("new: of(" + block + ", 0)", x.of(block, 0), NONE);
        }
        Checks.due("new: bind(0)", x.bind(0), -1);
        Checks.due("new: next(0)", x, x.next(0), 0, BAD);
        Checks.due("new: find(0, 0)", x.find(0, 0), -1);
    }

    private static void promise2Instrument() {
        CallWays2 x = new CallWays2();
        for (int i = 0; i < 12; i++) {
            Checks.due("instrument " + i, x.instrument(i % 5), i);
        }
        Checks.due("the 13th instrument", x.instrument(0), CallWays2.FULL);
        Checks.due("a wrong sort, when full", x.instrument(5), BAD);
        Checks.due("sort -1", x.instrument(-1), BAD);
        Checks.due("count(0)", x.count(0), 12);
        Checks.due("the 12th stands", x, x.phase(11, 3), 0, 0);
        Checks.due("no 13th stands", x, x.phase(12, 3), 0, BAD);
    }

    private static void promise3Note() {
        CallWays2 x = with(TONE);
        Checks.due("first note", x.note(0, 0, true), 0);
        Checks.due("note when on", x.note(0, 127, false), 1);
        Checks.due("note when off", x.note(0, 127, true), 0);
        x.phase(0, 1);
        Checks.due("note of pitch 128", x.note(0, 128, false), BAD);
        Checks.due("note of pitch -1", x.note(0, -1, false), BAD);
        Checks.due("note of instrument 1", x.note(1, 0, false), BAD);
        Checks.due("note of instrument -1", x.note(-1, 0, false), BAD);
        dueNext(x, "bad notes change nothing", -1.0);
        for (int sort = GLASS; sort <= READER; sort++) {
            Checks.due("instrument", x.instrument(sort), sort);
            Checks.due("first note of sort " + sort, x.note(sort, 1, true), 0);
            Checks.due("second note of sort " + sort, x.note(sort, 1, false), 1);
            Checks.due("third note of sort " + sort, x.note(sort, 1, true), 0);
        }
        x.next(5);
        x.note(0, 1, true);
        Checks.due("note() leaves state()", x.state(), BAD);
    }

    private static void promise4Knob() {
        CallWays2 x = with(GLASS);
        for (int k = 0; k < 4; k++) {
            Checks.due("knob " + k + " at first", x, x.knob(0, k, -10 - k), 0, 0);
        }
        for (int k = 0; k < 4; k++) {
            Checks.due("knob " + k + " then", x, x.knob(0, k, Integer.MIN_VALUE), -10 - k, 0);
        }
        Checks.due("knob -1", x, x.knob(0, -1, 1), 0, BAD);
        Checks.due("knob 3", x, x.knob(0, 3, 7), Integer.MIN_VALUE, 0);
        Checks.due("knob 4", x, x.knob(0, 4, 1), 0, BAD);
        Checks.due("knob of instrument -1", x, x.knob(-1, 0, 1), 0, BAD);
        Checks.due("knob of instrument 1", x, x.knob(1, 0, 1), 0, BAD);
    }

    private static void promise5Phase() {
        CallWays2 x = with(TONE);
        Checks.due("phase at first", x, x.phase(0, Integer.MAX_VALUE), 0, 0);
        x.block(0, INTS, 1);
        x.play(0, 0, 0, 0, 0, 1);
        Checks.due("phase goes round", x, x.phase(0, -3), Integer.MIN_VALUE, 0);
        Checks.due("phase of instrument 1", x, x.phase(1, 1), 0, BAD);
        Checks.due("phase of instrument -1", x, x.phase(-1, 1), 0, BAD);
        Checks.due("phase then", x, x.phase(0, 0), -3, 0);
    }

    private static void promise6Table() {
        CallWays2 x = with(READER);
        x.block(9, INTS, 1);
        x.put(9, 0, 5);
        Checks.due("table lent", x.table(0, 9, true), 1);
        x.put(9, 0, 6);
        dueNext(x, "a lent table follows its block", 6.0);
        Checks.due("table copied", x.table(0, 9, false), 1);
        x.put(9, 0, 7);
        dueNext(x, "a copied table stays", 6.0);
        Checks.due("table of block 10", x.table(0, 10, true), BAD);
        Checks.due("table of block -2", x.table(0, -2, true), BAD);
        Checks.due("table of instrument 1", x.table(1, 9, true), BAD);
        Checks.due("table of instrument -1", x.table(-1, 9, true), BAD);
        dueNext(x, "bad tables change nothing", 6.0);
        x.table(0, 9, true);
        x.block(9, INTS, 1);
        dueNext(x, "a lent table stays when its block holds new samples", 7.0);
        Checks.due("table -1, lent", x.table(0, -1, true), 1);
        dueFailure(x, "no table", NONE);
        x.table(0, 9, true);
        Checks.due("table -1, copied", x.table(0, -1, false), 1);
        dueFailure(x, "no table again", NONE);
        x.table(0, 9, true);
        Checks.due("table of an empty block, copied", x.table(0, 0, false), 1);
        dueFailure(x, "what holds nothing is no table", NONE);
        x.next(5);
        x.table(0, 9, true);
        Checks.due("table() leaves state()", x.state(), BAD);
    }

    private static void tone() {
        CallWays2 x = with(TONE);
        x.phase(0, 3);
        dueNext(x, "tone, off", 0.0);
        x.note(0, 100, true);
        dueNext(x, "tone, on", 300 % 256 - 128);
        x.phase(0, -3);
        dueNext(x, "tone, phase below 0", -300 % 256 - 128);
        x.note(0, 127, true);
        x.phase(0, Integer.MAX_VALUE);
        dueNext(x, "tone, beyond an int", Integer.MAX_VALUE * 127 % 256 - 128);
        x.note(0, 1, true);
        x.phase(0, 128);
        dueNext(x, "tone, 0 is no -0", 0.0);
    }

    private static void glass() {
        CallWays2 x = with(GLASS);
        x.knob(0, 0, 5);
        dueNext(x, "glass, off", 5.0);
        x.note(0, 9, true);
        dueNext(x, "glass, on", -251.0);
        x.knob(0, 0, Integer.MIN_VALUE);
        dueNext(x, "glass, beyond an int", -256.0 + Integer.MIN_VALUE);
    }

    private static void drum() {
        CallWays2 x = with(DRUM);
        dueFailure(x, "drum with knob 1 at 0", ZERO);
        x.knob(0, 1, 3);
        dueNext(x, "drum at first", 0.0);
        x.note(0, 90, false);
        dueNext(x, "a note that is off leaves the level", 0.0);
        x.note(0, 90, true);
        dueNext(x, "drum struck", 90.0);
        x.block(0, 3, 1);
        x.play(0, 0, 0, 0, 0, 1);
        dueNext(x, "drum's second", 90.0 * 333.0 / 1000.0);
        x.knob(0, 1, 0);
        Checks.due("play with knob 1 at 0", x, x.play(0, 0, 0, 0, 0, 1), ZERO, ZERO);
        x.knob(0, 1, -1);
        dueNext(x, "ZERO leaves the level", 90.0 * 333.0 / 1000.0);
        x.play(0, 0, 0, 0, 0, 1);
        dueNext(x, "drum with a knob below 0", -90.0 * 333.0 / 1000.0);
        x.knob(0, 1, 1001);
        x.play(0, 0, 0, 0, 0, 1);
        dueNext(x, "drum with a knob above 1000", -0.0);
        Checks.due("phase behind them all", x, x.phase(0, 0), 4, 0);
        x.note(0, 127, true);
        x.note(0, 5, false);
        dueNext(x, "a later note that is off leaves the level", 127.0);
    }

    /** Through the numbers that are too small for a leading 1, down to 0, in doubles and in floats. */
    private static void drumFadesToNothing() {
        CallWays2 x = with(DRUM);
        x.knob(0, 1, -7);
        x.note(0, 127, true);
        x.block(0, 3, 40);
        x.block(1, 2, 40);
        double level = 127.0;
        for (int part = 0; part < 12; part++) {
            double start = level;
            x.note(0, 127, false);
            for (int i = 0; i < 40; i++) {
                dueNext(x, "faded", level);
                x.play(0, 0, 0, part % 2, i, 1);
                level = level * -142.0 / 1000.0;
            }
            double again = start;
            for (int i = 0; i < 40; i++) {
                long bits = part % 2 == 0 ? Double.doubleToLongBits(again) : Float.floatToIntBits((float) again);
                Checks.due("at() in part " + part, x, x.at(part % 2, i), bits, 0);
                again = again * -142.0 / 1000.0;
            }
        }
        Checks.due("it has faded", level == 0.0, true);
    }

    private static void bell() {
        CallWays2 x = with(BELL);
        dueFailure(x, "bell where phase is knob 2, ahead of ZERO", OWN);
        x.phase(0, 1);
        dueFailure(x, "bell with knob 1 at 0", ZERO);
        x.knob(0, 1, 2);
        dueNext(x, "bell of level 0, phase odd", -0.0);
        x.note(0, 64, true);
        dueNext(x, "bell, phase odd", -64.0);
        x.phase(0, -1);
        dueNext(x, "bell, phase odd below 0", -64.0);
        x.phase(0, 2);
        dueNext(x, "bell, phase even", 64.0);
        x.phase(0, 0);
        x.block(0, 3, 1);
        Checks.due("play where phase is knob 2", x, x.play(0, 0, 0, 0, 0, 1), OWN, OWN);
        dueNext(x, "OWN leaves the level, phase is 1 more", -64.0);
        x.play(0, 0, 0, 0, 0, 1);
        dueNext(x, "the level itself keeps its sign", 32.0);
    }

    private static CallWays2 readerOf(int n) {
        CallWays2 x = with(READER);
        x.block(0, INTS, n);
        for (int i = 0; i < n; i++) {
            x.put(0, i, 100 + i);
        }
        x.table(0, 0, true);
        return x;
    }

    private static void reader() {
        CallWays2 x = readerOf(5);
        x.knob(0, 0, 4);
        dueNext(x, "reader's last", 104.0);
        x.knob(0, 0, 5);
        dueFailure(x, "reader beyond its table", INDEX);
        x.knob(0, 0, -1);
        dueFailure(x, "reader ahead of its table", INDEX);
        x.phase(0, 1);
        dueNext(x, "reader's first", 100.0);
        x.phase(0, Integer.MAX_VALUE);
        x.knob(0, 0, Integer.MIN_VALUE + 3);
        dueNext(x, "reader, a sum of int's ends", 102.0);
        x.note(0, 0, true);
        x.phase(0, Integer.MIN_VALUE);
        x.knob(0, 0, Integer.MIN_VALUE);
        dueNext(x, "reader, a sum that goes round", 100.0);
        x.block(0, INTS, 0);
        x.table(0, 0, true);
        dueFailure(x, "reader of a table of none", INDEX);
        x.put(0, 0, 0);
        for (int lane = 0; lane < 4; lane++) {
            x.block(1, lane, 3);
            x.table(0, 1, false);
            x.knob(0, 0, 0);
            x.phase(0, 1);
            if (lane == INTS) {
                dueNext(x, "a table of ints", 0.0);
            } else {
                dueFailure(x, "a table of lane " + lane, KIND);
            }
        }
    }

    private static void readerRefusesInItsOrder() {
        CallWays2 x = with(READER);
        dueFailure(x, "off, phase 0, no table", NONE);
        x.phase(0, -1);
        dueFailure(x, "off, phase -1, no table", SIZE);
        x.note(0, 0, true);
        dueFailure(x, "on, phase -1, no table", NONE);
        x.block(0, 0, 1);
        x.table(0, 0, true);
        dueFailure(x, "on, phase -1, a table of shorts", KIND);
        x.note(0, 0, false);
        dueFailure(x, "off, phase -1, a table of shorts", SIZE);
        x.phase(0, -8);
        dueFailure(x, "off, phase -8, a table of shorts", KIND);
        x.block(0, INTS, 1);
        x.table(0, 0, true);
        dueFailure(x, "off, phase -8, beyond its table", INDEX);
        x.knob(0, 0, 8);
        dueNext(x, "off, phase -8, in its table", 0.0);
        x.knob(0, 0, 9);
        x.phase(0, -9);
        dueFailure(x, "off, phase -9, in its table", SIZE);
    }

    private static void promise19Next() {
        CallWays2 x = with(DRUM);
        x.knob(0, 1, 2);
        x.note(0, 10, true);
        dueNext(x, "once", 10.0);
        dueNext(x, "twice", 10.0);
        Checks.due("phase behind next()", x, x.phase(0, 0), 0, 0);
        x.knob(0, 1, 0);
        dueFailure(x, "fails", ZERO);
        Checks.due("phase behind next() that fails", x, x.phase(0, 0), 0, 0);
        Checks.due("next(1)", x, x.next(1), 0, BAD);
        Checks.due("next(-1)", x, x.next(-1), 0, BAD);
        Checks.due("next() asks nothing in PLAYED", x.count(4), 0);
    }
}
