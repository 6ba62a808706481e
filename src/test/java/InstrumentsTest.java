/** Promises 1 to 6 and 19, and the terms' sentences on instruments: a test for each sentence. */
public final class InstrumentsTest {
    private static final int BAD = CallWays2.BAD, FULL = CallWays2.FULL, OWN = CallWays2.OWN, NONE = CallWays2.NONE;
    private static final int MIN = Setups.MIN, MAX = Setups.MAX;
    private static final int[] NO_INSTRUMENT = {-1, 1, 12, MIN, MAX};

    public static void main(String[] args) {
        Checks.sentence("1: No INSTRUMENTS", InstrumentsTest::newHasNoInstruments);
        Checks.sentence("1: no FUNCTIONS", InstrumentsTest::newHasNoFunctions);
        Checks.sentence("1: BLOCKS hold nothing", InstrumentsTest::newBlocksHoldNothing);
        Checks.sentence("1: the handle is bound to none", InstrumentsTest::newHandleIsUnbound);
        Checks.sentence("1: a new object has nothing of another one", InstrumentsTest::newSharesNothing);
        Checks.sentence("terms: INSTRUMENTS 0 .. 11", InstrumentsTest::numbersFrom0To11);
        Checks.sentence("2: BAD", InstrumentsTest::instrumentBad);
        Checks.sentence("2: FULL", InstrumentsTest::instrumentFull);
        Checks.sentence("2: BAD; FULL (both)", InstrumentsTest::instrumentBadWhenFull);
        Checks.sentence("terms: KNOBS 0 to 3 (ints, 0 at first)", InstrumentsTest::knobsAtFirst);
        Checks.sentence("terms: OFF (at first)", InstrumentsTest::offAtFirst);
        Checks.sentence("terms: a PHASE (an int, 0 at first)", InstrumentsTest::phaseAtFirst);
        Checks.sentence("terms: a LEVEL (a double, 0.0)", InstrumentsTest::levelAtFirst);
        Checks.sentence("terms: a TABLE: .. or none", InstrumentsTest::noTableAtFirst);
        Checks.sentence("terms: PHASE is 1 more behind it", InstrumentsTest::phaseIsOneMore);
        Checks.sentence("terms: PHASE, an int, is 1 more behind it (its end)", InstrumentsTest::phaseGoesRound);
        Checks.sentence("terms: also behind one that FAILS", InstrumentsTest::phaseIsOneMoreBehindFailure);
        Checks.sentence("3: whether it was ON (1, 0)", InstrumentsTest::noteTellsWhetherOn);
        Checks.sentence("3: BAD", InstrumentsTest::noteBad);
        Checks.sentence("3: BAD: PITCH is not 0 to 127", InstrumentsTest::noteBadPitch);
        Checks.sentence("3: PITCH 0 to 127 (its ends)", InstrumentsTest::notePitchEnds);
        Checks.sentence("4: A KNOB becomes v: what it was", InstrumentsTest::knobTellsWhatItWas);
        Checks.sentence("4: 0 when it is BAD (INSTRUMENT)", InstrumentsTest::knobBadInstrument);
        Checks.sentence("4: 0 when it is BAD (KNOB)", InstrumentsTest::knobBadKnob);
        Checks.sentence("4: state() tells", InstrumentsTest::knobStateTells);
        Checks.sentence("5: The PHASE becomes v: what it was", InstrumentsTest::phaseTellsWhatItWas);
        Checks.sentence("5: 0 when it is BAD", InstrumentsTest::phaseBad);
        Checks.sentence("6: what a BLOCK holds, LENT", InstrumentsTest::tableLent);
        Checks.sentence("6: LENT (the BLOCK then holds other SAMPLES)", InstrumentsTest::tableLentStays);
        Checks.sentence("6: or a copy of it", InstrumentsTest::tableCopied);
        Checks.sentence("6: -1: none", InstrumentsTest::tableNone);
        Checks.sentence("6: what a BLOCK holds (nothing)", InstrumentsTest::tableOfNothing);
        Checks.sentence("6: what a BLOCK holds (0 SAMPLES)", InstrumentsTest::tableOfNoSamples);
        Checks.sentence("6: BAD (INSTRUMENT)", InstrumentsTest::tableBadInstrument);
        Checks.sentence("6: BAD (BLOCK)", InstrumentsTest::tableBadBlock);
        Checks.sentence("19: BITS (of a double)", InstrumentsTest::nextTellsBits);
        Checks.sentence("19: it staying as it is", InstrumentsTest::nextLeavesIt);
        Checks.sentence("19: it staying as it is (FAILURES)", InstrumentsTest::nextThatFailsLeavesIt);
        Checks.sentence("19: 0, STATE: BAD", InstrumentsTest::nextBad);
        Checks.sentence("19: 0, STATE: FAILURES", InstrumentsTest::nextFailures);
        Checks.end();
    }

    private static void newHasNoInstruments(CallWays2 x) {
        Checks.due("count(0)", x.count(0), 0);
        Checks.dueFailure("new", x, 0, BAD);
        Checks.due("note", x.note(0, 1, true), BAD);
    }

    private static void newHasNoFunctions(CallWays2 x) {
        Checks.due("count(1)", x.count(1), 0);
        Checks.due("find(0, 0)", x.find(0, 0), -1);
        x.instrument(Setups.TONE);
        Checks.due("agree", x.agree(0, 0, 0), false);
    }

    private static void newBlocksHoldNothing(CallWays2 x) {
        for (int block = 0; block < 10; block++) {
            Checks.due("of(" + block + ", 0)", x.of(block, 0), NONE);
            Checks.due("of(" + block + ", 1)", x.of(block, 1), NONE);
        }
    }

    private static void newHandleIsUnbound(CallWays2 x) {
        x.instrument(Setups.TONE);
        for (int lane : Setups.LANES) {
            x.block(lane, lane, 1);
            Checks.dueRefusal("play by the handle", x, x.play(0, 1, 0, lane, 0, 1), CallWays2.KIND);
        }
        Checks.due("bind(0)", x.bind(0), -1);
    }

    private static void newSharesNothing(CallWays2 x) {
        Setups.steady(x, 5);
        x.function(Setups.SAME, 0);
        Setups.fill(x, 0, Setups.INTS, 1);
        x.bind(Setups.INTS);
        x.play(0, 0, 0, 0, 0, 1);
        x.next(9);
        CallWays2 other = new CallWays2();
        for (int what = 0; what < 5; what++) {
            Checks.due("count(" + what + ")", other.count(what), 0);
        }
        Checks.due("state()", other.state(), 0);
        Checks.due("of(0, 0)", other.of(0, 0), NONE);
        Checks.due("bind(0)", other.bind(0), -1);
    }

    private static void numbersFrom0To11(CallWays2 x) {
        for (int i = 0; i < 12; i++) {
            Checks.due("instrument " + i, x.instrument(i % 5), i);
            Checks.due("count(0)", x.count(0), i + 1);
        }
        for (int i = 0; i < 12; i++) {
            Checks.due("phase of " + i, x, x.phase(i, i + 1), 0, 0);
        }
        for (int i = 0; i < 12; i++) {
            Checks.duePhase("each has its own", x, i, i + 1);
        }
    }

    private static void instrumentBad(CallWays2 x) {
        for (int sort : new int[] {-1, 5, MIN, MAX}) {
            Checks.due("instrument(" + sort + ")", x.instrument(sort), BAD);
        }
        Checks.due("count(0)", x.count(0), 0);
        Checks.due("the first is number 0", x.instrument(4), 0);
    }

    private static CallWays2 fullOf12(CallWays2 x) {
        for (int i = 0; i < 12; i++) {
            x.instrument(Setups.TONE);
        }
        return x;
    }

    private static void instrumentFull(CallWays2 x) {
        fullOf12(x);
        for (int sort = 0; sort < 5; sort++) {
            Checks.due("instrument(" + sort + ")", x.instrument(sort), FULL);
        }
        Checks.due("count(0)", x.count(0), 12);
        Checks.due("there is no 13th", x, x.phase(12, 3), 0, BAD);
    }

    private static void instrumentBadWhenFull(CallWays2 x) {
        fullOf12(x);
        Checks.due("instrument(5)", x.instrument(5), BAD);
        Checks.due("instrument(-1)", x.instrument(-1), BAD);
    }

    private static void knobsAtFirst(CallWays2 x) {
        for (int sort = 0; sort < 5; sort++) {
            x.instrument(sort);
            for (int k = 0; k < 4; k++) {
                Checks.due("knob " + k + " of sort " + sort, x, x.knob(sort, k, 10 * sort + k), 0, 0);
            }
        }
        for (int sort = 0; sort < 5; sort++) {
            for (int k = 0; k < 4; k++) {
                Checks.due("knob " + k + " of sort " + sort, x.knob(sort, k, 0), 10 * sort + k);
            }
        }
    }

    private static void offAtFirst(CallWays2 x) {
        for (int sort = 0; sort < 5; sort++) {
            x.instrument(sort);
            Checks.due("first note of sort " + sort, x.note(sort, 1, true), 0);
        }
        int tone = x.instrument(Setups.TONE);
        x.phase(tone, 3);
        Checks.dueNext("a tone at first", x, tone, 0.0);
        int reader = x.instrument(Setups.READER);
        x.phase(reader, -1);
        Checks.dueFailure("a reader at first", x, reader, CallWays2.SIZE);
    }

    private static void phaseAtFirst(CallWays2 x) {
        for (int sort = 0; sort < 5; sort++) {
            x.instrument(sort);
            Checks.due("phase of sort " + sort, x, x.phase(sort, 7), 0, 0);
        }
    }

    private static void levelAtFirst(CallWays2 x) {
        x.instrument(Setups.DRUM);
        x.knob(0, 1, 1);
        Checks.dueNext("a drum at first", x, 0, 0.0);
        x.instrument(Setups.BELL);
        x.knob(1, 1, 1);
        x.knob(1, 2, -1);
        Checks.dueNext("a bell at first", x, 1, 0.0);
    }

    private static void noTableAtFirst(CallWays2 x) {
        x.instrument(Setups.READER);
        x.block(0, Setups.INTS, 1);
        Checks.dueFailure("a reader at first", x, 0, NONE);
    }

    private static void phaseIsOneMore(CallWays2 x) {
        Setups.bell(x, 1);
        x.block(0, Setups.INTS, 40);
        x.phase(0, 5);
        x.play(0, 0, 0, 0, 0, 0);
        Checks.duePhase("behind none", x, 0, 5);
        x.play(0, 0, 0, 0, 0, 1);
        Checks.duePhase("behind one", x, 0, 6);
        x.play(0, 0, 0, 0, 0, 40);
        Checks.duePhase("behind 40", x, 0, 46);
        x.phase(0, -10);
        x.play(0, 0, 0, 0, 0, 4);
        Checks.duePhase("behind 4 below 0", x, 0, -6);
    }

    private static void phaseGoesRound(CallWays2 x) {
        x.instrument(Setups.TONE);
        x.block(0, Setups.INTS, 3);
        x.note(0, 1, true);
        x.phase(0, MAX - 1);
        Checks.due("play", x, x.play(0, 0, 0, 0, 0, 3), 3, 0);
        Checks.duePhase("behind the greatest", x, 0, MIN + 1);
        Checks.dueRow("254, 255, and 0 of the least", x, 0, 126, 127, -128);
    }

    private static void phaseIsOneMoreBehindFailure(CallWays2 x) {
        x.block(0, Setups.INTS, 3);
        for (int cause : Setups.CAUSES) {
            int instrument = Setups.failing(x, cause);
            int phase = x.phase(instrument, 0);
            x.phase(instrument, phase);
            Checks.dueRefusal("play", x, x.play(instrument, 0, 0, 0, 0, 3), cause);
            Checks.duePhase("behind " + cause, x, instrument, phase + 1);
        }
        x.function(Setups.REFUSING, 5);
        int steady = Setups.steady(x, 5);
        x.phase(steady, MAX);
        Checks.dueRefusal("play", x, x.play(steady, 2, 0, 0, 0, 3), OWN);
        Checks.duePhase("behind a function's OWN", x, steady, MIN);
    }

    private static void noteTellsWhetherOn(CallWays2 x) {
        for (int sort = 0; sort < 5; sort++) {
            x.instrument(sort);
            Checks.due("at first, sort " + sort, x.note(sort, 0, false), 0);
            Checks.due("when off", x.note(sort, 0, true), 0);
            Checks.due("when on", x.note(sort, 0, true), 1);
            Checks.due("when still on", x.note(sort, 0, false), 1);
            Checks.due("when off again", x.note(sort, 0, true), 0);
        }
        Checks.due("note() leaves state()", x.state(), 0);
    }

    private static void noteBad(CallWays2 x) {
        Checks.due("note when there is none", x.note(0, 0, true), BAD);
        x.instrument(Setups.TONE);
        for (int i : NO_INSTRUMENT) {
            Checks.due("note of " + i, x.note(i, 0, true), BAD);
        }
        Checks.due("none came on", x.note(0, 0, false), 0);
    }

    private static void noteBadPitch(CallWays2 x) {
        int tone = x.instrument(Setups.TONE);
        x.note(tone, 3, true);
        x.phase(tone, 5);
        int drum = Setups.drum(x, 7, 1);
        int[] pitches = {-1, 128, MIN, MAX};
        for (int pitch : pitches) {
            Checks.due("off, pitch " + pitch, x.note(tone, pitch, false), BAD);
            Checks.due("on, pitch " + pitch, x.note(drum, pitch, true), BAD);
        }
        Checks.dueNext("it stays on, its pitch too", x, tone, 15 - 128);
        Checks.dueNext("the level stays", x, drum, 7.0);
    }

    private static void notePitchEnds(CallWays2 x) {
        int tone = x.instrument(Setups.TONE);
        x.phase(tone, 1);
        Checks.due("note of 127", x.note(tone, 127, true), 0);
        Checks.dueNext("127", x, tone, -1.0);
        Checks.due("note of 0", x.note(tone, 0, true), 1);
        Checks.dueNext("0", x, tone, -128.0);
    }

    private static void knobTellsWhatItWas(CallWays2 x) {
        x.instrument(Setups.TONE);
        for (int k = 0; k < 4; k++) {
            x.knob(0, k, MIN + k);
        }
        for (int k = 0; k < 4; k++) {
            Checks.due("knob " + k, x, x.knob(0, k, MAX - k), MIN + k, 0);
            Checks.due("knob " + k, x, x.knob(0, k, -1), MAX - k, 0);
        }
    }

    private static void knobBadInstrument(CallWays2 x) {
        Checks.due("knob when there is none", x, x.knob(0, 0, 1), 0, BAD);
        x.instrument(Setups.TONE);
        x.knob(0, 0, 9);
        for (int i : NO_INSTRUMENT) {
            Checks.due("knob of " + i, x, x.knob(i, 0, 1), 0, BAD);
        }
        Checks.due("the knob stays", x, x.knob(0, 0, 1), 9, 0);
    }

    private static void knobBadKnob(CallWays2 x) {
        x.instrument(Setups.TONE);
        for (int k = 0; k < 4; k++) {
            x.knob(0, k, 9);
        }
        for (int k : new int[] {-1, 4, MIN, MAX}) {
            Checks.due("knob " + k, x, x.knob(0, k, 1), 0, BAD);
        }
        for (int k = 0; k < 4; k++) {
            Checks.due("knob " + k + " stays", x, x.knob(0, k, 1), 9, 0);
        }
    }

    private static void knobStateTells(CallWays2 x) {
        x.instrument(Setups.TONE);
        x.knob(0, 4, 1);
        Checks.due("0 that is BAD", x.state(), BAD);
        Checks.due("0 that it was", x, x.knob(0, 0, BAD), 0, 0);
        Checks.due("below 0 that it was", x, x.knob(0, 0, 0), BAD, 0);
    }

    private static void phaseTellsWhatItWas(CallWays2 x) {
        x.instrument(Setups.TONE);
        x.phase(0, MIN);
        Checks.due("the least", x, x.phase(0, MAX), MIN, 0);
        Checks.due("the greatest", x, x.phase(0, -1), MAX, 0);
        Checks.due("below 0", x, x.phase(0, 0), -1, 0);
    }

    private static void phaseBad(CallWays2 x) {
        Checks.due("phase when there is none", x, x.phase(0, 1), 0, BAD);
        x.instrument(Setups.TONE);
        x.phase(0, 9);
        for (int i : NO_INSTRUMENT) {
            Checks.due("phase of " + i, x, x.phase(i, 1), 0, BAD);
        }
        Checks.due("the phase stays", x, x.phase(0, 1), 9, 0);
    }

    private static void tableLent(CallWays2 x) {
        int reader = Setups.reader(x, 5);
        x.put(Setups.TABLE, 0, 6);
        Checks.dueNext("it follows put()", x, reader, 6.0);
        x.lend(0, Setups.TABLE, true);
        x.put(0, 0, 7);
        Checks.dueNext("it follows put() by another that is lent", x, reader, 7.0);
        int steady = Setups.steady(x, 8);
        x.play(steady, 0, 0, 0, 0, 1);
        Checks.dueNext("it follows play()", x, reader, 8.0);
        Setups.fill(x, 1, Setups.INTS, 9);
        x.copy(1, 0, 0, 0, 1);
        Checks.dueNext("it follows copy()", x, reader, 9.0);
        Checks.due("table() itself", x.table(reader, 0, true), 1);
        Checks.due("of each sort", x.table(steady, 0, true), 1);
        Checks.due("of the first block and the last", x.table(reader, 9, true), 1);
    }

    private static void tableLentStays(CallWays2 x) {
        int reader = Setups.reader(x, 5);
        x.block(Setups.TABLE, Setups.INTS, 1);
        Checks.dueNext("the block is made anew", x, reader, 5.0);
        x.table(reader, Setups.TABLE, true);
        x.put(Setups.TABLE, 0, 6);
        x.lend(Setups.TABLE, 0, true);
        Checks.dueNext("the block holds nothing", x, reader, 6.0);
    }

    private static void tableCopied(CallWays2 x) {
        int reader = Setups.reader(x, 5);
        Checks.due("table", x.table(reader, Setups.TABLE, false), 1);
        Checks.dueNext("it has the samples", x, reader, 5.0);
        x.put(Setups.TABLE, 0, 6);
        Checks.dueNext("they stay", x, reader, 5.0);
        x.block(0, Setups.FLOATS, 1);
        x.table(reader, 0, false);
        Checks.dueFailure("it has the lane", x, reader, CallWays2.KIND);
    }

    private static void tableNone(CallWays2 x) {
        int reader = Setups.reader(x, 5);
        for (boolean lent : new boolean[] {true, false}) {
            x.table(reader, Setups.TABLE, true);
            Checks.due("table(-1)", x.table(reader, -1, lent), 1);
            Checks.dueFailure("none", x, reader, NONE);
        }
    }

    private static void tableOfNothing(CallWays2 x) {
        int reader = Setups.reader(x, 5);
        for (boolean lent : new boolean[] {true, false}) {
            x.table(reader, Setups.TABLE, true);
            Checks.due("table of nothing", x.table(reader, 0, lent), 1);
            Checks.dueFailure("nothing", x, reader, NONE);
        }
        x.table(reader, 0, true);
        x.block(0, Setups.INTS, 1);
        Checks.dueFailure("nothing is not lent on", x, reader, NONE);
    }

    private static void tableOfNoSamples(CallWays2 x) {
        int reader = Setups.reader(x, 5);
        x.block(0, Setups.INTS, 0);
        for (boolean lent : new boolean[] {true, false}) {
            Checks.due("table of 0 samples", x.table(reader, 0, lent), 1);
            Checks.dueFailure("a table without a sample", x, reader, CallWays2.INDEX);
        }
    }

    private static void tableBadInstrument(CallWays2 x) {
        Checks.due("table when there is none", x.table(0, 0, true), BAD);
        x.instrument(Setups.READER);
        for (int i : NO_INSTRUMENT) {
            Checks.due("table of " + i, x.table(i, 0, true), BAD);
            Checks.due("table of " + i + ", none", x.table(i, -1, false), BAD);
        }
        Checks.due("table() leaves state()", x.state(), 0);
    }

    private static void tableBadBlock(CallWays2 x) {
        int reader = Setups.reader(x, 5);
        for (int block : new int[] {-2, 10, MIN, MAX}) {
            Checks.due("lent by " + block, x.table(reader, block, true), BAD);
            Checks.due("copied from " + block, x.table(reader, block, false), BAD);
        }
        Checks.dueNext("the table stays", x, reader, 5.0);
    }

    private static void nextTellsBits(CallWays2 x) {
        Checks.dueNext("below 0", x, Setups.steady(x, -5), -5.0);
        Checks.dueNext("0", x, Setups.steady(x, 0), 0.0);
        int bell = Setups.bell(x, 0);
        x.phase(bell, 1);
        Checks.dueNext("-0.0", x, bell, -0.0);
        Checks.dueNext("the greatest int", x, Setups.steady(x, MAX), MAX);
        Checks.dueNext("the least int", x, Setups.steady(x, MIN), MIN);
    }

    private static void nextLeavesIt(CallWays2 x) {
        int drum = Setups.drum(x, 10, 2);
        x.phase(drum, MAX);
        Checks.dueNext("once", x, drum, 10.0);
        Checks.dueNext("twice", x, drum, 10.0);
        Checks.duePhase("behind next()", x, drum, MAX);
        Checks.due("it is not PLAYED well", x.count(2), 0);
        Checks.due("nor is it asked in PLAYED", x.count(4), 0);
        int bell = Setups.bell(x, 10);
        x.knob(bell, 1, 2);
        Checks.dueNext("a bell once", x, bell, 10.0);
        Checks.dueNext("a bell twice", x, bell, 10.0);
    }

    private static void nextThatFailsLeavesIt(CallWays2 x) {
        for (int cause : Setups.CAUSES) {
            int instrument = Setups.failing(x, cause);
            int phase = x.phase(instrument, 0);
            x.phase(instrument, phase);
            Checks.dueFailure("once", x, instrument, cause);
            Checks.dueFailure("twice", x, instrument, cause);
            Checks.duePhase("behind " + cause, x, instrument, phase);
        }
        Checks.due("it is not PLAYED that FAILED", x.count(3), 0);
        Checks.due("nor is it asked in PLAYED", x.count(4), 0);
    }

    private static void nextBad(CallWays2 x) {
        Checks.dueFailure("when there is none", x, 0, BAD);
        Setups.steady(x, 5);
        for (int i : NO_INSTRUMENT) {
            Checks.dueFailure("no such one", x, i, BAD);
        }
        Checks.dueNext("one that is", x, 0, 5.0);
    }

    private static void nextFailures(CallWays2 x) {
        for (int cause : Setups.CAUSES) {
            Checks.dueFailure("cause " + cause, x, Setups.failing(x, cause), cause);
        }
        Checks.dueNext("well again", x, Setups.steady(x, 0), 0.0);
    }
}
