/** What each sort of instrument gives, and its failures: a test for each sentence of the terms. */
public final class SoundsTest {
    private static final int OWN = CallWays2.OWN, ZERO = CallWays2.ZERO, NONE = CallWays2.NONE, KIND = CallWays2.KIND,
            INDEX = CallWays2.INDEX, SIZE = CallWays2.SIZE;
    private static final int MIN = Setups.MIN, MAX = Setups.MAX;

    public static void main(String[] args) {
        Checks.sentence("TONE: ON: (PHASE times PITCH) % 256 - 128", SoundsTest::toneOn);
        Checks.sentence("TONE: % 256 - 128 (its ends)", SoundsTest::toneEnds);
        Checks.sentence("TONE: PHASE times PITCH, all as ints (beyond an int)", SoundsTest::toneGoesRound);
        Checks.sentence("TONE: OFF: 0", SoundsTest::toneOff);
        Checks.sentence("GLASS: twice what a TONE gives, and KNOB 0", SoundsTest::glass);
        Checks.sentence("GLASS, a TONE (OFF)", SoundsTest::glassOff);
        Checks.sentence("GLASS: (as doubles)", SoundsTest::glassBeyondAnInt);
        Checks.sentence("DRUM: LEVEL; then LEVEL becomes ..", SoundsTest::drum);
        Checks.sentence("DRUM: 1000 / KNOB 1, as ints", SoundsTest::drumDividesInts);
        Checks.sentence("DRUM: LEVEL * .. / 1000.0 (too small for a leading 1, and 0)", SoundsTest::drumFadesToNothing);
        Checks.sentence("DRUM: LEVEL * .. (of 0.0, by a number below 0)", SoundsTest::drumOfNegativeZero);
        Checks.sentence("DRUM: ZERO leaves it", SoundsTest::drumZeroLeavesLevel);
        Checks.sentence("DRUM: note() that is ON sets LEVEL to PITCH", SoundsTest::drumStruck);
        Checks.sentence("DRUM: note() that is ON (OFF does not)", SoundsTest::drumNotStruck);
        Checks.sentence("BELL: OWN, if PHASE is KNOB 2", SoundsTest::bellOwn);
        Checks.sentence("BELL: (and LEVEL stays)", SoundsTest::bellOwnLeavesLevel);
        Checks.sentence("BELL: -1.0 times that where PHASE is odd", SoundsTest::bellOdd);
        Checks.sentence("BELL: -1.0 times that (LEVEL itself)", SoundsTest::bellKeepsTheSignOfLevel);
        Checks.sentence("BELL: as a DRUM (ZERO leaves it; note())", SoundsTest::bellIsADrum);
        Checks.sentence("READER: SAMPLE PHASE + KNOB 0 of its TABLE", SoundsTest::reader);
        Checks.sentence("READER: PHASE + KNOB 0 (as ints)", SoundsTest::readerGoesRound);
        Checks.sentence("READER: when it is OFF, a row of PHASE % 8 ints is made", SoundsTest::readerOff);
        Checks.sentence("READER: SIZE, if that is below 0", SoundsTest::readerSize);
        Checks.sentence("READER: when it is OFF (ON, no row is made)", SoundsTest::readerOnMakesNoRow);
        Checks.sentence("FAILURES: the first that happens: OWN; ZERO", SoundsTest::ownAheadOfZero);
        Checks.sentence("FAILURES: ZERO: 1000 by 0", SoundsTest::zero);
        Checks.sentence("FAILURES: NONE: no TABLE", SoundsTest::none);
        Checks.sentence("FAILURES: KIND: a TABLE of another LANE", SoundsTest::kind);
        Checks.sentence("FAILURES: INDEX: no such SAMPLE", SoundsTest::index);
        Checks.sentence("FAILURES: the first that happens: KIND; INDEX", SoundsTest::kindAheadOfIndex);
        Checks.sentence("READER: a row .. ahead of that (NONE, KIND, INDEX)", SoundsTest::sizeAheadOfTheOthers);
        Checks.end();
    }

    private static void dueTone(CallWays2 x, int pitch, int phase, double want) {
        x.note(0, pitch, true);
        x.phase(0, phase);
        Checks.dueNext("pitch " + pitch + ", phase " + phase, x, 0, want);
    }

    private static void toneOn(CallWays2 x) {
        x.instrument(Setups.TONE);
        dueTone(x, 100, 0, -128);
        dueTone(x, 100, 3, 300 - 256 - 128);
        dueTone(x, 100, -3, -300 + 256 - 128);
        dueTone(x, 1, 128, 0.0);
        dueTone(x, 0, 77, -128);
    }

    private static void toneEnds(CallWays2 x) {
        x.instrument(Setups.TONE);
        dueTone(x, 1, 255, 127);
        dueTone(x, 1, 256, -128);
        dueTone(x, 1, -255, -383);
        dueTone(x, 1, -256, -128);
    }

    private static void toneGoesRound(CallWays2 x) {
        x.instrument(Setups.TONE);
        // 127 * (2 to the 31st - 1) goes round to 2 to the 31st - 127, which leaves 129
        dueTone(x, 127, MAX, 1);
        // 3 * (2 to the 31st - 1) goes round to 2 to the 31st - 3
        dueTone(x, 3, MAX, 253 - 128);
        // 2 * (2 to the 31st - 1) goes round to -2
        dueTone(x, 2, MAX, -2 - 128);
        dueTone(x, 127, MIN, -128);
        // 127 * (-2 to the 31st + 1) goes round to -2 to the 31st + 127
        dueTone(x, 127, MIN + 1, -129 - 128);
    }

    private static void toneOff(CallWays2 x) {
        x.instrument(Setups.TONE);
        for (int phase : new int[] {0, 1, -1, MAX, MIN}) {
            x.note(0, 99, false);
            x.phase(0, phase);
            Checks.dueNext("off, phase " + phase, x, 0, 0.0);
        }
    }

    private static void glass(CallWays2 x) {
        x.instrument(Setups.GLASS);
        x.note(0, 9, true);
        Checks.dueNext("knob 0 at 0", x, 0, -256.0);
        x.knob(0, 0, 5);
        Checks.dueNext("knob 0 at 5", x, 0, -251.0);
        x.phase(0, 3);
        Checks.dueNext("phase 3", x, 0, 2 * (27 - 128) + 5);
        x.knob(0, 1, 1000);
        x.knob(0, 2, 1000);
        x.knob(0, 3, 1000);
        Checks.dueNext("other knobs do not count", x, 0, 2 * (27 - 128) + 5);
    }

    private static void glassOff(CallWays2 x) {
        x.instrument(Setups.GLASS);
        x.phase(0, 3);
        Checks.dueNext("off, knob 0 at 0", x, 0, 0.0);
        x.knob(0, 0, -5);
        Checks.dueNext("off, knob 0 at -5", x, 0, -5.0);
    }

    private static void glassBeyondAnInt(CallWays2 x) {
        x.instrument(Setups.GLASS);
        x.note(0, 1, true);
        x.knob(0, 0, MIN);
        Checks.dueNext("below the least int", x, 0, -256.0 - 2147483648.0);
        x.phase(0, 255);
        x.knob(0, 0, MAX);
        Checks.dueNext("above the greatest int", x, 0, 254.0 + 2147483647.0);
    }

    private static void drum(CallWays2 x) {
        Setups.drum(x, 90, 3);
        x.block(0, Setups.DOUBLES, 3);
        Checks.due("play", x, x.play(0, 0, 0, 0, 0, 3), 3, 0);
        Checks.dueRow("a drum", x, 0, 90.0, 90.0 * 333.0 / 1000.0, 90.0 * 333.0 / 1000.0 * 333.0 / 1000.0);
    }

    private static void drumDividesInts(CallWays2 x) {
        Setups.drum(x, 90, 1);
        x.block(0, Setups.DOUBLES, 1);
        int[][] parts = {{1, 1000}, {-1, -1000}, {3, 333}, {-7, -142}, {999, 1}, {1000, 1}, {-1000, -1}, {1001, 0},
            {-1001, 0}, {MAX, 0}, {MIN, 0}};
        for (int[] part : parts) {
            x.note(0, 90, true);
            x.knob(0, 1, part[0]);
            x.play(0, 0, 0, 0, 0, 1);
            Checks.dueNext("1000 / " + part[0], x, 0, 90.0 * part[1] / 1000.0);
        }
    }

    private static void drumFadesToNothing(CallWays2 unused) {
        double level = 127.0;
        for (int plays = 1; plays <= 12; plays++) {
            double[] want = new double[40];
            for (int i = 0; i < 40; i++) {
                want[i] = level;
                level = level * -142.0 / 1000.0;
            }
            dueFaded(Setups.DOUBLES, plays, want);
            dueFaded(Setups.FLOATS, plays, want);
        }
        Checks.due("it has faded", level == 0.0, true);
    }

    /** What the last of several plays of 40 gives: each time on a new object, as 512 calls are all that is promised. */
    private static void dueFaded(int lane, int plays, double[] want) {
        CallWays2 x = new CallWays2();
        Setups.drum(x, 127, -7);
        x.block(0, lane, 40);
        for (int earlier = 1; earlier < plays; earlier++) {
            x.play(0, 0, 0, 0, 0, 40);
        }
        Checks.dueNext("faded", x, 0, want[0]);
        x.play(0, 0, 0, 0, 0, 40);
        Checks.dueRow("lane " + lane + ", play " + plays, x, 0, want);
    }

    private static void drumOfNegativeZero(CallWays2 x) {
        Setups.drum(x, 0, -1);
        x.block(0, Setups.DOUBLES, 3);
        x.play(0, 0, 0, 0, 0, 3);
        Checks.dueRow("0.0 by -1000", x, 0, 0.0, -0.0, 0.0);
        x.note(0, 5, true);
        x.knob(0, 1, 2000);
        x.play(0, 0, 0, 0, 0, 3);
        Checks.dueRow("5 by 0", x, 0, 5.0, 0.0, 0.0);
        x.note(0, 5, true);
        x.knob(0, 1, -1);
        x.play(0, 0, 0, 0, 0, 1);
        x.knob(0, 1, 2000);
        x.play(0, 0, 0, 0, 0, 3);
        Checks.dueRow("-5 by 0", x, 0, -5.0, -0.0, -0.0);
    }

    private static void drumZeroLeavesLevel(CallWays2 x) {
        Setups.drum(x, 90, 0);
        x.block(0, Setups.DOUBLES, 2);
        Checks.dueRefusal("play", x, x.play(0, 0, 0, 0, 0, 2), ZERO);
        x.knob(0, 1, 1);
        Checks.dueNext("the level", x, 0, 90.0);
    }

    private static void drumStruck(CallWays2 x) {
        Setups.drum(x, 90, 1);
        for (int pitch : new int[] {127, 1, 0}) {
            x.note(0, pitch, true);
            Checks.dueNext("struck when on, by " + pitch, x, 0, pitch);
        }
        x.note(0, 0, false);
        x.note(0, 64, true);
        Checks.dueNext("struck when off", x, 0, 64.0);
        x.knob(0, 1, -1);
        x.block(0, Setups.DOUBLES, 1);
        x.play(0, 0, 0, 0, 0, 1);
        x.note(0, 0, true);
        Checks.dueNext("0 is no -0", x, 0, 0.0);
    }

    private static void drumNotStruck(CallWays2 x) {
        Setups.drum(x, 90, 1);
        x.note(0, 5, false);
        Checks.dueNext("off leaves the level", x, 0, 90.0);
        x.note(0, 6, false);
        Checks.dueNext("off again leaves the level", x, 0, 90.0);
    }

    private static void bellOwn(CallWays2 x) {
        Setups.bell(x, 9);
        for (int phase : new int[] {0, 1, -1, MAX, MIN}) {
            x.phase(0, phase);
            x.knob(0, 2, phase);
            Checks.dueFailure("phase " + phase, x, 0, OWN);
            x.knob(0, 2, phase + 1);
            Checks.dueNext("one below it", x, 0, phase % 2 == 0 ? 9.0 : -9.0);
            x.knob(0, 2, phase - 1);
            Checks.dueNext("one above it", x, 0, phase % 2 == 0 ? 9.0 : -9.0);
        }
    }

    private static void bellOwnLeavesLevel(CallWays2 x) {
        Setups.bell(x, 64);
        x.knob(0, 1, 2);
        x.knob(0, 2, 0);
        x.block(0, Setups.DOUBLES, 1);
        Checks.dueRefusal("play", x, x.play(0, 0, 0, 0, 0, 1), OWN);
        x.phase(0, 2);
        Checks.dueNext("the level", x, 0, 64.0);
    }

    private static void bellOdd(CallWays2 x) {
        Setups.bell(x, 64);
        x.knob(0, 2, 99);
        int[] odd = {1, 3, -1, -3, MAX, MIN + 1};
        int[] even = {0, 2, -2, MAX - 1, MIN};
        for (int phase : odd) {
            x.phase(0, phase);
            Checks.dueNext("phase " + phase, x, 0, -64.0);
        }
        for (int phase : even) {
            x.phase(0, phase);
            Checks.dueNext("phase " + phase, x, 0, 64.0);
        }
        x.note(0, 0, true);
        x.phase(0, 1);
        Checks.dueNext("of level 0", x, 0, -0.0);
    }

    private static void bellKeepsTheSignOfLevel(CallWays2 x) {
        Setups.bell(x, 64);
        x.knob(0, 1, 2);
        x.block(0, Setups.DOUBLES, 4);
        x.play(0, 0, 0, 0, 0, 4);
        Checks.dueRow("halved", x, 0, 64.0, -32.0, 16.0, -8.0);
    }

    private static void bellIsADrum(CallWays2 x) {
        Setups.bell(x, 64);
        x.knob(0, 1, 0);
        x.block(0, Setups.DOUBLES, 2);
        Checks.dueRefusal("play", x, x.play(0, 0, 0, 0, 0, 2), ZERO);
        x.knob(0, 1, 1);
        x.phase(0, 0);
        Checks.dueNext("ZERO leaves the level", x, 0, 64.0);
        x.note(0, 5, false);
        Checks.dueNext("a note that is off leaves it", x, 0, 64.0);
        x.note(0, 127, true);
        Checks.dueNext("a note that is on sets it", x, 0, 127.0);
    }

    private static void dueRead(CallWays2 x, int phase, int knob, double want) {
        x.phase(0, phase);
        x.knob(0, 0, knob);
        Checks.dueNext("phase " + phase + ", knob 0 at " + knob, x, 0, want);
    }

    private static void reader(CallWays2 x) {
        Setups.reader(x, MIN, -1, 0, MAX);
        dueRead(x, 0, 0, MIN);
        dueRead(x, 1, 0, -1.0);
        dueRead(x, 0, 2, 0.0);
        dueRead(x, 2, 1, MAX);
        dueRead(x, -5, 5, MIN);
        dueRead(x, 5, -4, -1.0);
    }

    private static void readerGoesRound(CallWays2 x) {
        Setups.reader(x, 100, 101, 102);
        dueRead(x, MIN, MIN, 100.0);
        dueRead(x, MIN, MIN + 2, 102.0);
        dueRead(x, MAX, MIN + 1, 100.0);
        dueRead(x, MIN + 1, MAX, 100.0);
        x.phase(0, MAX);
        x.knob(0, 0, MAX);
        Checks.dueFailure("a sum that goes round to -2", x, 0, INDEX);
    }

    private static void readerOff(CallWays2 x) {
        Setups.reader(x, 100, 101, 102);
        x.note(0, 0, false);
        dueRead(x, 0, 1, 101.0);
        dueRead(x, 7, -5, 102.0);
        dueRead(x, 8, -8, 100.0);
        dueRead(x, MAX, MIN + 2, 101.0);
        dueRead(x, -8, 9, 101.0);
        dueRead(x, -16, 16, 100.0);
        dueRead(x, MIN, MIN, 100.0);
    }

    private static void readerSize(CallWays2 x) {
        Setups.reader(x, 100, 101, 102);
        x.note(0, 0, false);
        for (int phase : new int[] {-1, -7, -9, -15, MIN + 1, MIN + 7}) {
            x.phase(0, phase);
            x.knob(0, 0, -phase);
            Checks.dueFailure("off, phase " + phase, x, 0, SIZE);
        }
    }

    private static void readerOnMakesNoRow(CallWays2 x) {
        Setups.reader(x, 100, 101, 102);
        dueRead(x, -1, 1, 100.0);
        dueRead(x, -7, 8, 101.0);
        dueRead(x, MIN + 1, MAX, 100.0);
    }

    private static void ownAheadOfZero(CallWays2 x) {
        Setups.bell(x, 9);
        x.knob(0, 1, 0);
        x.knob(0, 2, 0);
        Checks.dueFailure("both", x, 0, OWN);
        x.phase(0, 1);
        Checks.dueFailure("ZERO alone", x, 0, ZERO);
    }

    private static void zero(CallWays2 x) {
        Setups.drum(x, 0, 0);
        Checks.dueFailure("of level 0 too", x, 0, ZERO);
        x.knob(0, 1, 1);
        Checks.dueNext("1000 by 1", x, 0, 0.0);
        x.instrument(Setups.TONE);
        x.instrument(Setups.GLASS);
        Checks.dueNext("a tone does not divide", x, 1, 0.0);
        Checks.dueNext("a glass does not divide", x, 2, 0.0);
    }

    private static void none(CallWays2 x) {
        Setups.reader(x, 100);
        x.table(0, -1, true);
        for (int phase : new int[] {0, 1, -1, MAX, MIN}) {
            x.phase(0, phase);
            Checks.dueFailure("on, phase " + phase, x, 0, NONE);
        }
        x.note(0, 0, false);
        x.phase(0, -8);
        Checks.dueFailure("off, a row of none", x, 0, NONE);
        for (int sort : new int[] {Setups.TONE, Setups.GLASS}) {
            Checks.dueNext("others need no table", x, x.instrument(sort), 0.0);
        }
    }

    private static void kind(CallWays2 x) {
        Setups.reader(x, 100);
        for (int lane : Setups.LANES) {
            x.block(lane, lane, 1);
            for (boolean lent : new boolean[] {true, false}) {
                x.table(0, lane, lent);
                if (lane == Setups.INTS) {
                    Checks.dueNext("ints", x, 0, 0.0);
                } else {
                    Checks.dueFailure("lane " + lane, x, 0, KIND);
                }
            }
        }
    }

    private static void index(CallWays2 x) {
        Setups.reader(x, 100, 101, 102);
        for (int phase : new int[] {3, 4, -1, MAX, MIN}) {
            x.phase(0, phase);
            Checks.dueFailure("on, phase " + phase, x, 0, INDEX);
        }
        x.note(0, 0, false);
        for (int phase : new int[] {3, -8, MAX, MIN}) {
            x.phase(0, phase);
            Checks.dueFailure("off, phase " + phase, x, 0, INDEX);
        }
        x.phase(0, 2);
        Checks.dueNext("its last", x, 0, 102.0);
    }

    private static void kindAheadOfIndex(CallWays2 x) {
        x.instrument(Setups.READER);
        x.block(0, Setups.SHORTS, 0);
        x.table(0, 0, true);
        Checks.dueFailure("both", x, 0, KIND);
    }

    private static void sizeAheadOfTheOthers(CallWays2 x) {
        x.instrument(Setups.READER);
        x.phase(0, -1);
        Checks.dueFailure("no table", x, 0, SIZE);
        x.block(0, Setups.SHORTS, 9);
        x.table(0, 0, true);
        Checks.dueFailure("a table of shorts", x, 0, SIZE);
        x.block(0, Setups.INTS, 9);
        x.table(0, 0, true);
        Checks.dueFailure("no such sample", x, 0, SIZE);
    }
}
