/** Promises 14 and 16, and the terms' sentences on what is PLAYED: a test for each sentence. */
public final class PlayTest {
    private static final int BAD = CallWays2.BAD, OWN = CallWays2.OWN, NONE = CallWays2.NONE, KIND = CallWays2.KIND,
            INDEX = CallWays2.INDEX, SIZE = CallWays2.SIZE;
    private static final int SHORTS = Setups.SHORTS, INTS = Setups.INTS, FLOATS = Setups.FLOATS, DOUBLES = Setups.DOUBLES;
    private static final int MIN = Setups.MIN, MAX = Setups.MAX;
    private static final int MEMBERS = 0, HANDLE = 1, FUNCTION = 2;
    private static final int[] WAYS = {MEMBERS, HANDLE, FUNCTION};

    public static void main(String[] args) {
        Checks.sentence("14: what it was bound to, -1 at first", PlayTest::bindTellsWhatItWas);
        Checks.sentence("14: BAD is -2 here", PlayTest::bindBad);
        Checks.sentence("16: BAD: INSTRUMENT", PlayTest::badInstrument);
        Checks.sentence("16: BAD: WAY", PlayTest::badWay);
        Checks.sentence("16: BAD: BLOCK", PlayTest::badBlock);
        Checks.sentence("16: BAD: FUNCTION", PlayTest::badFunction);
        Checks.sentence("16: WAY 0, 1 (f does not count)", PlayTest::functionDoesNotCount);
        Checks.sentence("16: BAD: ..; FAILURES (both)", PlayTest::badAheadOfFailures);
        Checks.sentence("PLAYED: NONE: it holds nothing", PlayTest::intoNothing);
        Checks.sentence("PLAYED: KIND: the handle is not bound to its LANE", PlayTest::handleOfAnotherLane);
        Checks.sentence("PLAYED: KIND: the handle is not bound (to any)", PlayTest::handleOfNoLane);
        Checks.sentence("PLAYED: KIND: the WAY is 1 (others need no handle)", PlayTest::otherWaysNeedNoHandle);
        Checks.sentence("PLAYED: SIZE: n is below 0", PlayTest::lessThanNone);
        Checks.sentence("PLAYED: INDEX: from is below 0", PlayTest::fromBelowZero);
        Checks.sentence("PLAYED: INDEX: from and n are beyond its end", PlayTest::beyondTheEnd);
        Checks.sentence("PLAYED: INDEX: from and n (beyond an int)", PlayTest::beyondTheEndGoesRound);
        Checks.sentence("PLAYED: n SAMPLES (0, at its end)", PlayTest::noneAtTheEnd);
        Checks.sentence("PLAYED: n SAMPLES (40, up to its end)", PlayTest::upToTheEnd);
        Checks.sentence("PLAYED: in this row: NONE ahead of the others", PlayTest::noneComesFirst);
        Checks.sentence("PLAYED: in this row: KIND ahead of SIZE and INDEX", PlayTest::kindComesSecond);
        Checks.sentence("PLAYED: in this row: SIZE ahead of INDEX", PlayTest::sizeComesThird);
        Checks.sentence("PLAYED: First the BLOCK (then the INSTRUMENT)", PlayTest::blockAheadOfInstrument);
        Checks.sentence("PLAYED: then nothing is asked, nothing changed", PlayTest::refusedChangesNothing);
        Checks.sentence("PLAYED: turned by the machine's cast: SHORTS, by an int", PlayTest::turnedIntoShorts);
        Checks.sentence("PLAYED: turned by the machine's cast: INTS", PlayTest::turnedIntoInts);
        Checks.sentence("PLAYED: turned by the machine's cast: FLOATS", PlayTest::turnedIntoFloats);
        Checks.sentence("PLAYED: turned by the machine's cast: DOUBLES", PlayTest::turnedIntoDoubles);
        Checks.sentence("PLAYED: turned (parts of 1 go, towards 0)", PlayTest::turnedTowardsZero);
        Checks.sentence("PLAYED: they are there, in their row: n is the answer", PlayTest::inTheirRow);
        Checks.sentence("PLAYED: all at once (into its own TABLE)", PlayTest::allAtOnce);
        Checks.sentence("PLAYED: If one FAILS, no further one is asked", PlayTest::noFurtherOneIsAsked);
        Checks.sentence("PLAYED: the n places become 0 (SILENCE)", PlayTest::silence);
        Checks.sentence("PLAYED: the n places become 0 (those that are LENT)", PlayTest::silenceInTheLent);
        Checks.sentence("PLAYED: the n places become 0 (0.0, not -0.0)", PlayTest::silenceIsZero);
        Checks.sentence("PLAYED: and the FAILURE is the answer", PlayTest::failureIsTheAnswer);
        Checks.sentence("PLAYED: n SAMPLES (0: a FAILURE is not met)", PlayTest::noneDoesNotFail);
        Checks.sentence("the same in each way", PlayTest::sameInEachWay);
        Checks.end();
    }

    private static void bindTellsWhatItWas(CallWays2 x) {
        Checks.due("the first", x.bind(SHORTS), -1);
        Checks.due("the second", x.bind(DOUBLES), SHORTS);
        Checks.due("the third", x.bind(FLOATS), DOUBLES);
        Checks.due("the same", x.bind(FLOATS), FLOATS);
        Checks.due("the last", x.bind(INTS), FLOATS);
        Checks.due("bind() leaves state()", x.state(), 0);
    }

    private static void bindBad(CallWays2 x) {
        int[] noLane = {-1, 4, MIN, MAX};
        for (int lane : noLane) {
            Checks.due("bind(" + lane + ") at first", x.bind(lane), -2);
        }
        Checks.due("it was bound to none", x.bind(DOUBLES), -1);
        for (int lane : noLane) {
            Checks.due("bind(" + lane + ")", x.bind(lane), -2);
        }
        Checks.due("it stays bound", x.bind(INTS), DOUBLES);
        Checks.due("bind() leaves state()", x.state(), 0);
    }

    /** A glass that gives 5 for ever, a function that leaves it so, a block of four in each lane, the handle bound to INTS. */
    private static int ready(CallWays2 x) {
        int steady = Setups.steady(x, 5);
        x.function(Setups.SAME, 0);
        for (int lane : Setups.LANES) {
            Setups.fill(x, lane, lane, 1, 2, 3, 4);
        }
        x.bind(INTS);
        return steady;
    }

    private static void dueUntouched(CallWays2 x, int steady, int failed) {
        Checks.dueRow("the samples stay", x, INTS, 1, 2, 3, 4);
        Checks.duePhase("it is not asked", x, steady, 0);
        Checks.due("PLAYED well", x.count(2), 0);
        Checks.due("PLAYED that FAILED", x.count(3), failed);
        Checks.due("SAMPLES that were asked", x.count(4), 0);
    }

    private static void badInstrument(CallWays2 x) {
        x.block(0, INTS, 1);
        Checks.dueRefusal("when there is none", x, x.play(0, 0, 0, 0, 0, 0), BAD);
        int steady = ready(x);
        for (int i : new int[] {-1, 1, 12, MIN, MAX}) {
            for (int way : WAYS) {
                Checks.dueRefusal("instrument " + i + ", way " + way, x, x.play(i, way, 0, INTS, 0, 1), BAD);
            }
        }
        dueUntouched(x, steady, 0);
    }

    private static void badWay(CallWays2 x) {
        int steady = ready(x);
        for (int way : new int[] {-1, 3, MIN, MAX}) {
            Checks.dueRefusal("way " + way, x, x.play(steady, way, 0, INTS, 0, 1), BAD);
        }
        dueUntouched(x, steady, 0);
    }

    private static void badBlock(CallWays2 x) {
        int steady = ready(x);
        for (int block : new int[] {-1, 10, MIN, MAX}) {
            for (int way : WAYS) {
                Checks.dueRefusal("block " + block + ", way " + way, x, x.play(steady, way, 0, block, 0, 1), BAD);
            }
        }
        dueUntouched(x, steady, 0);
    }

    private static void badFunction(CallWays2 x) {
        int steady = ready(x);
        for (int f : new int[] {-1, 1, 8, MIN, MAX}) {
            Checks.dueRefusal("function " + f, x, x.play(steady, FUNCTION, f, INTS, 0, 1), BAD);
        }
        dueUntouched(x, steady, 0);
        for (int f = 1; f < 8; f++) {
            x.function(Setups.SAME, 0);
        }
        Checks.due("function 7 of 8", x, x.play(steady, FUNCTION, 7, INTS, 0, 1), 1, 0);
        Checks.dueRefusal("function 8 of 8", x, x.play(steady, FUNCTION, 8, INTS, 0, 1), BAD);
    }

    private static void functionDoesNotCount(CallWays2 x) {
        int steady = Setups.steady(x, 5);
        x.block(0, INTS, 1);
        x.bind(INTS);
        for (int f : new int[] {-1, 0, 8, MIN, MAX}) {
            Checks.due("by members, f " + f, x, x.play(steady, MEMBERS, f, 0, 0, 1), 1, 0);
            Checks.due("by the handle, f " + f, x, x.play(steady, HANDLE, f, 0, 0, 1), 1, 0);
        }
        x.function(Setups.PLUS, 9);
        x.play(steady, MEMBERS, 0, 0, 0, 1);
        Checks.dueRow("a function that stands, by members", x, 0, 5);
        x.play(steady, HANDLE, 0, 0, 0, 1);
        Checks.dueRow("a function that stands, by the handle", x, 0, 5);
    }

    private static void badAheadOfFailures(CallWays2 x) {
        int steady = ready(x);
        Checks.dueRefusal("instrument, NONE", x, x.play(1, 0, 0, 9, 0, 1), BAD);
        Checks.dueRefusal("way, NONE", x, x.play(steady, 3, 0, 9, 0, 1), BAD);
        Checks.dueRefusal("function, NONE", x, x.play(steady, FUNCTION, 1, 9, 0, 1), BAD);
        Checks.dueRefusal("function, SIZE", x, x.play(steady, FUNCTION, 1, INTS, 0, -1), BAD);
        Checks.dueRefusal("instrument, KIND", x, x.play(1, HANDLE, 0, FLOATS, 0, 1), BAD);
        Checks.dueRefusal("block, SIZE", x, x.play(steady, 0, 0, 10, 0, -1), BAD);
        Checks.dueRefusal("way, INDEX", x, x.play(steady, -1, 0, INTS, 9, 1), BAD);
        dueUntouched(x, steady, 0);
    }

    /** A play in each way, each of which its block refuses. */
    private static void dueBlockRefuses(CallWays2 x, int block, int from, int n, int cause) {
        for (int way : WAYS) {
            String call = "way " + way + ", block " + block + ", from " + from + ", n " + n;
            Checks.dueRefusal(call, x, x.play(0, way, 0, block, from, n), cause);
        }
    }

    private static void intoNothing(CallWays2 x) {
        int steady = ready(x);
        dueBlockRefuses(x, 9, 0, 1, NONE);
        dueBlockRefuses(x, 9, 0, 0, NONE);
        dueUntouched(x, steady, 6);
    }

    private static void handleOfAnotherLane(CallWays2 x) {
        int steady = ready(x);
        int refused = 0;
        for (int bound : Setups.LANES) {
            x.bind(bound);
            for (int lane : Setups.LANES) {
                if (lane != bound) {
                    Checks.dueRefusal(bound + " for " + lane, x, x.play(steady, HANDLE, 0, lane, 0, 1), KIND);
                    Checks.dueRefusal("none, " + bound + " for " + lane, x, x.play(steady, HANDLE, 0, lane, 0, 0), KIND);
                    refused += 2;
                }
            }
        }
        dueUntouched(x, steady, refused);
        for (int bound : Setups.LANES) {
            x.bind(bound);
            Checks.due("its own lane", x, x.play(steady, HANDLE, 0, bound, 0, 1), 1, 0);
        }
    }

    private static void handleOfNoLane(CallWays2 x) {
        int steady = Setups.steady(x, 5);
        for (int lane : Setups.LANES) {
            x.block(0, lane, 1);
            Checks.dueRefusal("lane " + lane, x, x.play(steady, HANDLE, 0, 0, 0, 1), KIND);
        }
        x.bind(4);
        Checks.dueRefusal("bound to a lane that is none", x, x.play(steady, HANDLE, 0, 0, 0, 1), KIND);
    }

    private static void otherWaysNeedNoHandle(CallWays2 x) {
        int steady = ready(x);
        for (int lane : Setups.LANES) {
            Checks.due("by members", x, x.play(steady, MEMBERS, 0, lane, 0, 1), 1, 0);
            Checks.due("by a function", x, x.play(steady, FUNCTION, 0, lane, 0, 1), 1, 0);
        }
    }

    private static void lessThanNone(CallWays2 x) {
        int steady = ready(x);
        dueBlockRefuses(x, INTS, 0, -1, SIZE);
        dueBlockRefuses(x, INTS, 4, -4, SIZE);
        dueBlockRefuses(x, INTS, 0, MIN, SIZE);
        dueUntouched(x, steady, 9);
    }

    private static void fromBelowZero(CallWays2 x) {
        int steady = ready(x);
        dueBlockRefuses(x, INTS, -1, 1, INDEX);
        dueBlockRefuses(x, INTS, -1, 0, INDEX);
        dueBlockRefuses(x, INTS, -4, 4, INDEX);
        dueBlockRefuses(x, INTS, MIN, 0, INDEX);
        dueUntouched(x, steady, 12);
    }

    private static void beyondTheEnd(CallWays2 x) {
        int steady = ready(x);
        dueBlockRefuses(x, INTS, 0, 5, INDEX);
        dueBlockRefuses(x, INTS, 1, 4, INDEX);
        dueBlockRefuses(x, INTS, 4, 1, INDEX);
        dueBlockRefuses(x, INTS, 5, 0, INDEX);
        dueUntouched(x, steady, 12);
        x.block(INTS, INTS, 0);
        dueBlockRefuses(x, INTS, 0, 1, INDEX);
    }

    private static void beyondTheEndGoesRound(CallWays2 x) {
        int steady = ready(x);
        dueBlockRefuses(x, INTS, MAX, 1, INDEX);
        dueBlockRefuses(x, INTS, 1, MAX, INDEX);
        dueBlockRefuses(x, INTS, MAX, MAX, INDEX);
        dueBlockRefuses(x, INTS, 0, MAX, INDEX);
        dueBlockRefuses(x, INTS, MAX, 0, INDEX);
        dueBlockRefuses(x, INTS, MIN, MAX, INDEX);
        dueUntouched(x, steady, 18);
    }

    private static void noneAtTheEnd(CallWays2 x) {
        int steady = ready(x);
        for (int way : WAYS) {
            Checks.due("none at the end, way " + way, x, x.play(steady, way, 0, INTS, 4, 0), 0, 0);
            Checks.due("none at the start, way " + way, x, x.play(steady, way, 0, INTS, 0, 0), 0, 0);
        }
        Checks.dueRow("the samples stay", x, INTS, 1, 2, 3, 4);
        Checks.duePhase("it is not asked", x, steady, 0);
        Checks.due("PLAYED well", x.count(2), 6);
        x.block(INTS, INTS, 0);
        Checks.due("into 0 samples", x, x.play(steady, MEMBERS, 0, INTS, 0, 0), 0, 0);
    }

    private static void upToTheEnd(CallWays2 x) {
        int steady = ready(x);
        Checks.due("the last one", x, x.play(steady, MEMBERS, 0, INTS, 3, 1), 1, 0);
        Checks.dueRow("the last one", x, INTS, 1, 2, 3, 5);
        Checks.due("all four", x, x.play(steady, MEMBERS, 0, INTS, 0, 4), 4, 0);
        Checks.dueRow("all four", x, INTS, 5, 5, 5, 5);
        x.block(0, INTS, 40);
        for (int way : WAYS) {
            Checks.due("40, way " + way, x, x.play(steady, way, 0, 0, 0, 40), 40, 0);
        }
        Checks.due("the last of 40", x.at(0, 39), 5);
        Checks.due("the first of 40", x.at(0, 0), 5);
        Checks.duePhase("all were asked", x, steady, 125);
    }

    private static void noneComesFirst(CallWays2 x) {
        int steady = ready(x);
        dueBlockRefuses(x, 9, 0, -1, NONE);
        dueBlockRefuses(x, 9, -1, 1, NONE);
        dueBlockRefuses(x, 9, -1, -1, NONE);
        x.bind(FLOATS);
        dueBlockRefuses(x, 9, 0, 1, NONE);
        dueUntouched(x, steady, 12);
    }

    private static void kindComesSecond(CallWays2 x) {
        int steady = ready(x);
        Checks.dueRefusal("KIND, SIZE", x, x.play(steady, HANDLE, 0, FLOATS, 0, -1), KIND);
        Checks.dueRefusal("KIND, INDEX", x, x.play(steady, HANDLE, 0, FLOATS, -1, 1), KIND);
        Checks.dueRefusal("KIND, INDEX at the end", x, x.play(steady, HANDLE, 0, FLOATS, 4, 1), KIND);
        Checks.dueRefusal("KIND, SIZE, INDEX", x, x.play(steady, HANDLE, 0, FLOATS, -1, -1), KIND);
        dueUntouched(x, steady, 4);
    }

    private static void sizeComesThird(CallWays2 x) {
        int steady = ready(x);
        dueBlockRefuses(x, INTS, -1, -1, SIZE);
        dueBlockRefuses(x, INTS, 5, -1, SIZE);
        dueBlockRefuses(x, INTS, MIN, MIN, SIZE);
        dueUntouched(x, steady, 9);
    }

    private static void blockAheadOfInstrument(CallWays2 x) {
        int drum = x.instrument(Setups.DRUM);
        x.block(0, INTS, 1);
        Checks.dueRefusal("NONE, ZERO", x, x.play(drum, MEMBERS, 0, 9, 0, 1), NONE);
        Checks.dueRefusal("KIND, ZERO", x, x.play(drum, HANDLE, 0, 0, 0, 1), KIND);
        Checks.dueRefusal("SIZE, ZERO", x, x.play(drum, MEMBERS, 0, 0, 0, -1), SIZE);
        Checks.dueRefusal("INDEX, ZERO", x, x.play(drum, MEMBERS, 0, 0, 1, 1), INDEX);
        Checks.dueRefusal("ZERO alone", x, x.play(drum, MEMBERS, 0, 0, 0, 1), CallWays2.ZERO);
    }

    private static void refusedChangesNothing(CallWays2 x) {
        int drum = Setups.drum(x, 64, 2);
        Setups.fill(x, 0, INTS, 1, 2, 3, 4);
        x.play(drum, MEMBERS, 0, 9, 0, 1);
        x.play(drum, HANDLE, 0, 0, 0, 1);
        x.play(drum, MEMBERS, 0, 0, 0, -1);
        x.play(drum, MEMBERS, 0, 0, 2, 3);
        x.play(drum, MEMBERS, 0, 0, -1, 3);
        Checks.dueRow("the samples stay, there is no silence", x, 0, 1, 2, 3, 4);
        Checks.dueNext("the level stays", x, drum, 64.0);
        Checks.duePhase("the phase stays", x, drum, 0);
        Checks.due("nothing is asked", x.count(4), 0);
        Checks.due("nothing in the block that holds nothing", x.of(9, 0), NONE);
    }

    /** A steady value, and its product with another, played into a new block. */
    private static void dueTurned(CallWays2 x, int lane, int value, double want) {
        x.knob(0, 0, value);
        x.block(0, lane, 1);
        for (int way : WAYS) {
            Checks.due(value + ", way " + way, x, x.play(0, way, 0, 0, 0, 1), 1, 0);
            Checks.dueRow(value + ", way " + way, x, 0, want);
        }
    }

    private static void dueProduct(CallWays2 x, int lane, int value, double want) {
        x.knob(0, 0, value);
        x.block(0, lane, 1);
        Checks.due("play", x, x.play(0, FUNCTION, 1, 0, 0, 1), 1, 0);
        Checks.dueRow(value + " times the greatest int", x, 0, want);
    }

    /** What turned samples come from: a steady glass, function 0 that leaves it so, function 1 that takes it MAX times. */
    private static void readyToTurn(CallWays2 x, int lane) {
        Setups.steady(x, 0);
        x.function(Setups.SAME, 0);
        x.function(Setups.TIMES, MAX);
        x.bind(lane);
    }

    private static void turnedIntoShorts(CallWays2 x) {
        readyToTurn(x, SHORTS);
        dueTurned(x, SHORTS, 32767, 32767);
        dueTurned(x, SHORTS, 32768, -32768);
        dueTurned(x, SHORTS, -32769, 32767);
        dueTurned(x, SHORTS, 70000, 4464);
        dueTurned(x, SHORTS, MAX, -1);
        dueTurned(x, SHORTS, MIN, 0);
        // by an int: beyond its ends a double becomes the greatest or the least int, of which a short takes the low half
        dueProduct(x, SHORTS, 2, -1);
        dueProduct(x, SHORTS, -2, 0);
    }

    private static void turnedIntoInts(CallWays2 x) {
        readyToTurn(x, INTS);
        dueTurned(x, INTS, MAX, MAX);
        dueTurned(x, INTS, MIN, MIN);
        dueProduct(x, INTS, 1, MAX);
        dueProduct(x, INTS, 2, MAX);
        dueProduct(x, INTS, -2, MIN);
        dueProduct(x, INTS, MAX, MAX);
    }

    private static void turnedIntoFloats(CallWays2 x) {
        readyToTurn(x, FLOATS);
        dueTurned(x, FLOATS, 16777216, 16777216.0);
        dueTurned(x, FLOATS, 16777217, 16777216.0);
        dueTurned(x, FLOATS, 16777219, 16777220.0);
        dueTurned(x, FLOATS, MAX, 2147483648.0);
        dueTurned(x, FLOATS, MIN, -2147483648.0);
        dueProduct(x, FLOATS, MAX, 4611686018427387904.0);
        dueProduct(x, FLOATS, MIN, -4611686018427387904.0);
    }

    private static void turnedIntoDoubles(CallWays2 x) {
        readyToTurn(x, DOUBLES);
        dueTurned(x, DOUBLES, MAX, 2147483647.0);
        dueTurned(x, DOUBLES, MIN, -2147483648.0);
        dueProduct(x, DOUBLES, MAX, 2147483647.0 * 2147483647.0);
        dueProduct(x, DOUBLES, MIN, -2147483648.0 * 2147483647.0);
    }

    private static void turnedTowardsZero(CallWays2 x) {
        x.function(Setups.SAME, 0);
        for (int lane : new int[] {SHORTS, INTS}) {
            int drum = Setups.drum(x, 5, -3);
            x.block(0, lane, 3);
            x.bind(lane);
            for (int way : WAYS) {
                x.note(drum, 5, true);
                x.play(drum, way, 0, 0, 0, 3);
                // 5, -1.665, 0.554..
                Checks.dueRow("lane " + lane + ", way " + way, x, 0, 5, -1, 0);
            }
        }
    }

    private static void inTheirRow(CallWays2 x) {
        int reader = Setups.reader(x, 10, 20, 30);
        x.function(Setups.SAME, 0);
        for (int lane : Setups.LANES) {
            x.bind(lane);
            for (int way : WAYS) {
                Setups.fill(x, 0, lane, 1, 2, 3, 4, 5);
                x.phase(reader, 0);
                Checks.due("way " + way, x, x.play(reader, way, 0, 0, 1, 3), 3, 0);
                Checks.dueRow("lane " + lane + ", way " + way, x, 0, 1, 10, 20, 30, 5);
            }
        }
    }

    private static void allAtOnce(CallWays2 x) {
        int reader = Setups.reader(x, 1, 2, 3, 4);
        x.function(Setups.SAME, 0);
        x.bind(INTS);
        for (int way : WAYS) {
            Setups.fill(x, Setups.TABLE, INTS, 1, 2, 3, 4);
            x.table(reader, Setups.TABLE, true);
            x.phase(reader, 0);
            Checks.due("way " + way, x, x.play(reader, way, 0, Setups.TABLE, 1, 3), 3, 0);
            Checks.dueRow("what was there, not what it has just given", x, Setups.TABLE, 1, 1, 2, 3);
        }
        x.lend(0, Setups.TABLE, true);
        x.phase(reader, 0);
        x.play(reader, MEMBERS, 0, 0, 1, 3);
        Checks.dueRow("by a block that is lent", x, Setups.TABLE, 1, 1, 1, 2);
    }

    private static void noFurtherOneIsAsked(CallWays2 x) {
        int bell = Setups.bell(x, 64);
        x.knob(bell, 1, 2);
        x.knob(bell, 2, 2);
        x.block(0, INTS, 9);
        Checks.dueRefusal("the third fails", x, x.play(bell, MEMBERS, 0, 0, 0, 9), OWN);
        Checks.duePhase("behind the third", x, bell, 3);
        Checks.due("three were asked", x.count(4), 3);
        Checks.dueNext("the level behind two", x, bell, -16.0);
    }

    private static void silence(CallWays2 x) {
        int reader = Setups.reader(x, 10, 20);
        x.function(Setups.SAME, 0);
        for (int lane : Setups.LANES) {
            x.bind(lane);
            for (int way : WAYS) {
                Setups.fill(x, 0, lane, 1, 2, 3, 4, 5, 6);
                x.phase(reader, 0);
                Checks.dueRefusal("way " + way, x, x.play(reader, way, 0, 0, 1, 4), INDEX);
                Checks.dueRow("lane " + lane + ", way " + way, x, 0, 1, 0, 0, 0, 0, 6);
            }
        }
    }

    private static void silenceInTheLent(CallWays2 x) {
        int reader = Setups.reader(x, 10, 20, 30);
        x.lend(0, Setups.TABLE, true);
        x.lend(1, Setups.TABLE, false);
        x.phase(reader, 2);
        Checks.dueRefusal("play", x, x.play(reader, MEMBERS, 0, 0, 0, 2), INDEX);
        Checks.dueRow("the lent", x, Setups.TABLE, 0, 0, 30);
        Checks.dueRow("a copy", x, 1, 10, 20, 30);
        x.phase(reader, 0);
        Checks.dueNext("its own table", x, reader, 0.0);
    }

    private static void silenceIsZero(CallWays2 x) {
        int bell = Setups.bell(x, 0);
        for (int lane : new int[] {FLOATS, DOUBLES}) {
            x.block(0, lane, 2);
            x.knob(bell, 2, -1);
            x.phase(bell, 1);
            x.play(bell, MEMBERS, 0, 0, 0, 1);
            Checks.dueRow("-0.0 was there", x, 0, -0.0, 0.0);
            x.phase(bell, 1);
            x.knob(bell, 2, 2);
            Checks.dueRefusal("the second fails", x, x.play(bell, MEMBERS, 0, 0, 0, 2), OWN);
            Checks.dueRow("silence", x, 0, 0.0, 0.0);
        }
    }

    private static void failureIsTheAnswer(CallWays2 x) {
        x.block(0, FLOATS, 2);
        for (int cause : Setups.CAUSES) {
            int instrument = Setups.failing(x, cause);
            Checks.dueRefusal("cause " + cause, x, x.play(instrument, MEMBERS, 0, 0, 0, 2), cause);
        }
        int reader = Setups.reader(x, 10, 20);
        x.note(reader, 0, false);
        x.phase(reader, -8);
        x.knob(reader, 0, 8);
        Checks.dueRefusal("SIZE at the second", x, x.play(reader, MEMBERS, 0, 0, 0, 2), SIZE);
        Checks.duePhase("behind the second", x, reader, -6);
    }

    private static void noneDoesNotFail(CallWays2 x) {
        x.function(Setups.SAME, 0);
        x.block(0, FLOATS, 2);
        x.bind(FLOATS);
        for (int cause : Setups.CAUSES) {
            int instrument = Setups.failing(x, cause);
            for (int way : WAYS) {
                Checks.due("cause " + cause + ", way " + way, x, x.play(instrument, way, 0, 0, 0, 0), 0, 0);
            }
        }
        Checks.due("PLAYED well", x.count(2), 18);
    }

    private static void sameInEachWay(CallWays2 x) {
        x.function(Setups.SAME, 0);
        x.bind(FLOATS);
        int asked = 0;
        for (int cause : Setups.CAUSES) {
            int instrument = Setups.failing(x, cause);
            int phase = x.phase(instrument, 0);
            for (int way : WAYS) {
                x.phase(instrument, phase);
                Setups.fill(x, 0, FLOATS, 1, 2, 3);
                Checks.dueRefusal("cause " + cause + ", way " + way, x, x.play(instrument, way, 0, 0, 1, 2), cause);
                Checks.dueRow("silence, way " + way, x, 0, 1, 0, 0);
                Checks.duePhase("way " + way, x, instrument, phase + 1);
                asked++;
                Checks.due("asked", x.count(4), asked);
                Checks.due("PLAYED that FAILED", x.count(3), asked);
            }
        }
    }
}
