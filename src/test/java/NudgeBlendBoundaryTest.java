/** One test for each sentence of promises 8 and 10 that names a boundary case. */
public final class NudgeBlendBoundaryTest {
    private static final int MAX = Integer.MAX_VALUE;
    private static final int MIN = Integer.MIN_VALUE;
    private static final int LETTERS = Due.LETTERS;
    private static final int WAVES = Due.WAVES;
    private static final int FADERS = Due.FADERS;
    private static final int LAMPS = Due.LAMPS;

    /** A FADER at its bound, TOLD. */
    private static final int BOUND = 8000000;

    /** What is neither a deck nor a sort. */
    private static final int[] OUTSIDE = {-1, 4, MIN, MAX};

    private static final Due due = new Due();
    private static ReelBarn x;

    public static void main(String[] args) {
        nudge();
        nudgeRefused();
        blend();
        blendRefused();
        due.end();
    }

    private static void nudge() {
        due.sentence("8: 0 sum (wrapping)", NudgeBlendBoundaryTest::sumWraps);
        due.sentence("8: 1 difference (wrapping)", NudgeBlendBoundaryTest::differenceWraps);
        due.sentence("8: 2 product (wrapping)", NudgeBlendBoundaryTest::productWraps);
        due.sentence("8: 3 quotient (towards 0", NudgeBlendBoundaryTest::quotientTowardsZero);
        due.sentence("8: 4 moved up by the lowest 5 bits of n", NudgeBlendBoundaryTest::movedUp);
        due.sentence("8: 5 down, zeros coming in", NudgeBlendBoundaryTest::movedDown);
        due.sentence("8: 6 exclusive-or", NudgeBlendBoundaryTest::exclusiveOr);
        due.sentence("8: 7 and", NudgeBlendBoundaryTest::and);
        due.sentence("8: 8 or", NudgeBlendBoundaryTest::or);
        due.sentence("8: FADERS are summed, subtracted as floats", NudgeBlendBoundaryTest::nudgedFaders);
        due.sentence("8: LAMPS with 1 for n odd, else 0", NudgeBlendBoundaryTest::nudgedLamps);
        due.sentence("8: Place i: first and last", NudgeBlendBoundaryTest::nudgedEnds);
    }

    private static void nudgeRefused() {
        due.sentence("8: how 0 to 8 and no other", NudgeBlendBoundaryTest::howsOfInts);
        due.sentence("8: FADERS know 0 and 1 alone", NudgeBlendBoundaryTest::howsOfFaders);
        due.sentence("8: LAMPS know 6, 7, 8 alone", NudgeBlendBoundaryTest::howsOfLamps);
        due.sentence("8: NONE", NudgeBlendBoundaryTest::nudgeNone);
        due.sentence("8: VACANT", NudgeBlendBoundaryTest::nudgeVacant);
        due.sentence("8: BEYOND", NudgeBlendBoundaryTest::nudgeBeyond);
        due.sentence("8: DIVIDED for n 0", NudgeBlendBoundaryTest::nudgeDivided);
        due.sentence("8: DIVIDED is the quotient's alone", NudgeBlendBoundaryTest::zeroOfOtherHows);
    }

    private static void blend() {
        due.sentence("10: Of ints as nudge 0, 1", NudgeBlendBoundaryTest::blendedInts);
        due.sentence("10: a FADER becomes that float", NudgeBlendBoundaryTest::blendedIntoFaders);
        due.sentence("10: LETTERS what comes of it, cut to an int (towards 0), put",
                NudgeBlendBoundaryTest::blendedIntoLetters);
        due.sentence("10: WAVES what comes of it, cut to an int (towards 0), put",
                NudgeBlendBoundaryTest::blendedIntoWaves);
        due.sentence("10: LAMPS go with LAMPS, as nudge 6", NudgeBlendBoundaryTest::blendedLamps);
        due.sentence("10: a place and itself", NudgeBlendBoundaryTest::blendedWithItself);
        due.sentence("10: Place j, place i: first and last", NudgeBlendBoundaryTest::blendedEnds);
    }

    private static void blendRefused() {
        due.sentence("10: LAMPS alone, and others with others: NONE otherwise",
                NudgeBlendBoundaryTest::lampsWithOthers);
        due.sentence("10: NONE", NudgeBlendBoundaryTest::blendNone);
        due.sentence("10: VACANT", NudgeBlendBoundaryTest::blendVacant);
        due.sentence("10: BEYOND", NudgeBlendBoundaryTest::blendBeyond);
        due.sentence("10: its VACANT goes ahead of the deck's", NudgeBlendBoundaryTest::fromVacantFirst);
        due.sentence("10: its BEYOND goes ahead of the deck's", NudgeBlendBoundaryTest::fromBeyondFirst);
    }

    /** Nudges a place told as 'before' and looks at the answer, the place and its neighbours. */
    private static void nudged(int sort, int before, int how, int n, long want) {
        x = new ReelBarn();
        x.mount(3, sort, 3);
        x.write(3, sort, 1, before);
        String call = "sort " + sort + ": " + before + " how " + how + " by " + n;
        due.is(call, x.nudge(3, sort, 1, how, n), want);
        due.is(call + ", read", x.read(3, sort, 1), want);
        due.is(call + ", neighbours", x.read(3, sort, 0) + x.read(3, sort, 2), 0);
    }

    private static void sumWraps() {
        nudged(LETTERS, 65535, 0, 1, 0);
        nudged(LETTERS, 0, 0, -1, 65535);
        nudged(LETTERS, 65535, 0, MAX, 65534);
        nudged(LETTERS, 1, 0, MIN, 1);
        nudged(LETTERS, 1, 0, MAX, 0);
        nudged(WAVES, 32767, 0, 1, -32768);
        nudged(WAVES, -32768, 0, -1, 32767);
        nudged(WAVES, 32767, 0, MAX, 32766);
        nudged(WAVES, -32768, 0, MIN, -32768);
        nudged(WAVES, -1, 0, MIN, -1);
    }

    private static void differenceWraps() {
        nudged(LETTERS, 0, 1, 1, 65535);
        nudged(LETTERS, 65535, 1, -1, 0);
        nudged(LETTERS, 0, 1, MIN, 0);
        nudged(LETTERS, 65535, 1, MIN, 65535);
        nudged(LETTERS, 0, 1, MAX, 1);
        nudged(WAVES, -32768, 1, 1, 32767);
        nudged(WAVES, 32767, 1, -1, -32768);
        nudged(WAVES, -32768, 1, MAX, -32767);
        nudged(WAVES, 32767, 1, MIN, 32767);
    }

    private static void productWraps() {
        nudged(LETTERS, 65535, 2, 65535, 1);
        nudged(LETTERS, 256, 2, 256, 0);
        nudged(LETTERS, 65535, 2, MAX, 1);
        nudged(LETTERS, 65535, 2, MIN, 0);
        nudged(LETTERS, 1, 2, -1, 65535);
        nudged(LETTERS, 65535, 2, 0, 0);
        nudged(WAVES, 32767, 2, 2, -2);
        nudged(WAVES, -32768, 2, -1, -32768);
        nudged(WAVES, -32768, 2, 2, 0);
        nudged(WAVES, -1, 2, MAX, 1);
        nudged(WAVES, -1, 2, MIN, 0);
    }

    private static void quotientTowardsZero() {
        nudged(LETTERS, 65535, 3, 1, 65535);
        nudged(LETTERS, 65535, 3, 65536, 0);
        nudged(LETTERS, 65535, 3, -1, 1);
        nudged(LETTERS, 7, 3, -2, 65533);
        nudged(LETTERS, 1, 3, -2, 0);
        nudged(LETTERS, 65535, 3, MIN, 0);
        nudged(LETTERS, 65535, 3, MAX, 0);
        nudged(WAVES, 7, 3, 2, 3);
        nudged(WAVES, -7, 3, 2, -3);
        nudged(WAVES, 7, 3, -2, -3);
        nudged(WAVES, -7, 3, -2, 3);
        nudged(WAVES, -1, 3, 2, 0);
        nudged(WAVES, -32768, 3, -1, -32768);
        nudged(WAVES, -32768, 3, MIN, 0);
        nudged(WAVES, -32768, 3, -32768, 1);
    }

    private static void movedUp() {
        nudged(LETTERS, 3, 4, 0, 3);
        nudged(LETTERS, 1, 4, 15, 32768);
        nudged(LETTERS, 1, 4, 16, 0);
        nudged(LETTERS, 65535, 4, 31, 0);
        nudged(LETTERS, 3, 4, 32, 3);
        nudged(LETTERS, 3, 4, 33, 6);
        nudged(LETTERS, 3, 4, -1, 0);
        nudged(LETTERS, 3, 4, -31, 6);
        nudged(LETTERS, 3, 4, MIN, 3);
        nudged(LETTERS, 3, 4, MAX, 0);
        nudged(WAVES, 1, 4, 14, 16384);
        nudged(WAVES, 1, 4, 15, -32768);
        nudged(WAVES, 1, 4, 16, 0);
        nudged(WAVES, -1, 4, 15, -32768);
        nudged(WAVES, -1, 4, 64, -1);
        nudged(WAVES, -1, 4, -31, -2);
    }

    /** The place is a 32-bit int while it moves, so that a wave's zeros come in at bit 31. */
    private static void movedDown() {
        nudged(LETTERS, 65535, 5, 0, 65535);
        nudged(LETTERS, 65535, 5, 1, 32767);
        nudged(LETTERS, 65535, 5, 15, 1);
        nudged(LETTERS, 65535, 5, 16, 0);
        nudged(LETTERS, 65535, 5, 31, 0);
        nudged(LETTERS, 65535, 5, 32, 65535);
        nudged(LETTERS, 65535, 5, -31, 32767);
        nudged(LETTERS, 65535, 5, MIN, 65535);
        nudged(LETTERS, 65535, 5, MAX, 0);
        nudged(WAVES, 32767, 5, 1, 16383);
        nudged(WAVES, -1, 5, 0, -1);
        nudged(WAVES, -1, 5, 16, -1);
        nudged(WAVES, -1, 5, 17, 32767);
        nudged(WAVES, -1, 5, 31, 1);
        nudged(WAVES, -1, 5, 32, -1);
        nudged(WAVES, -1, 5, -1, 1);
        nudged(WAVES, -32768, 5, 1, -16384);
    }

    private static void exclusiveOr() {
        nudged(LETTERS, 65535, 6, 65535, 0);
        nudged(LETTERS, 0, 6, -1, 65535);
        nudged(LETTERS, 5, 6, 65536, 5);
        nudged(LETTERS, 5, 6, 0, 5);
        nudged(WAVES, -1, 6, -1, 0);
        nudged(WAVES, 0, 6, 32768, -32768);
        nudged(WAVES, -32768, 6, -1, 32767);
        nudged(WAVES, 5, 6, MIN, 5);
    }

    private static void and() {
        nudged(LETTERS, 65535, 7, 0, 0);
        nudged(LETTERS, 65535, 7, -1, 65535);
        nudged(LETTERS, 65535, 7, MIN, 0);
        nudged(LETTERS, 65535, 7, 32768, 32768);
        nudged(WAVES, -1, 7, 32768, -32768);
        nudged(WAVES, -1, 7, 65535, -1);
        nudged(WAVES, -32768, 7, MAX, -32768);
        nudged(WAVES, -1, 7, MIN, 0);
    }

    private static void or() {
        nudged(LETTERS, 0, 8, -1, 65535);
        nudged(LETTERS, 1, 8, 65536, 1);
        nudged(LETTERS, 65535, 8, 0, 65535);
        nudged(WAVES, 0, 8, 32768, -32768);
        nudged(WAVES, 1, 8, MIN, 1);
        nudged(WAVES, 0, 8, MAX, -1);
        nudged(WAVES, -32768, 8, 32767, -1);
    }

    private static void nudgedFaders() {
        nudged(FADERS, 0, 0, 1, 1);
        nudged(FADERS, 0, 1, 1, -1);
        nudged(FADERS, BOUND - 1, 0, 1, BOUND);
        nudged(FADERS, BOUND, 0, 1, BOUND);
        nudged(FADERS, BOUND, 1, 1, BOUND - 1);
        nudged(FADERS, 1 - BOUND, 1, 1, -BOUND);
        nudged(FADERS, -BOUND, 1, 1, -BOUND);
        nudged(FADERS, -BOUND, 0, 1, 1 - BOUND);
        nudged(FADERS, 0, 0, MAX, BOUND);
        nudged(FADERS, 0, 0, MIN, -BOUND);
        nudged(FADERS, 0, 1, MAX, -BOUND);
        nudged(FADERS, 0, 1, MIN, BOUND);
        // Only what comes of it is a FADER, and bounded; the float of n is not.
        nudged(FADERS, -BOUND, 0, BOUND + 1, 1);
        nudged(FADERS, BOUND, 1, BOUND + 1, -1);
        nudged(FADERS, -BOUND, 0, MAX, BOUND);
        nudged(FADERS, BOUND, 1, MAX, -BOUND);
    }

    private static void nudgedLamps() {
        int[] odd = {1, -1, 3, MAX, MIN + 1};
        int[] even = {0, 2, -2, 65536, MIN};
        for (int lamp = 0; lamp < 2; lamp++) {
            for (int n : odd) {
                nudged(LAMPS, lamp, 6, n, 1 - lamp);
                nudged(LAMPS, lamp, 7, n, lamp);
                nudged(LAMPS, lamp, 8, n, 1);
            }
            for (int n : even) {
                nudged(LAMPS, lamp, 6, n, lamp);
                nudged(LAMPS, lamp, 7, n, 0);
                nudged(LAMPS, lamp, 8, n, lamp);
            }
        }
    }

    private static int aHowOf(int sort) {
        return sort == LAMPS ? 8 : 0;
    }

    private static void nudgedEnds() {
        for (int sort = 0; sort < 4; sort++) {
            for (int n : new int[] {1, 40}) {
                x = new ReelBarn();
                x.mount(0, sort, n);
                due.is("last", x.nudge(0, sort, n - 1, aHowOf(sort), 1), 1);
                due.is("last, read", x.read(0, sort, n - 1), 1);
                due.is("first", x.nudge(0, sort, 0, aHowOf(sort), 0), n == 1 ? 1 : 0);
            }
        }
    }

    /** Asks a barn whose deck 1 has a reel whether it takes the how. */
    private static void howIs(int sort, int how, boolean known) {
        x = new ReelBarn();
        x.mount(1, sort, 1);
        due.isTrue("sort " + sort + ", how " + how, (x.nudge(1, sort, 0, how, 1) != Due.NONE) == known);
        due.is("tallied as NONE, how " + how, x.tally(1), known ? 0 : 1);
    }

    private static void howsOfInts() {
        for (int sort = LETTERS; sort <= WAVES; sort++) {
            for (int how = -2; how <= 10; how++) {
                howIs(sort, how, how >= 0 && how <= 8);
            }
            howIs(sort, MIN, false);
            howIs(sort, MAX, false);
        }
    }

    private static void howsOfFaders() {
        for (int how = -2; how <= 10; how++) {
            howIs(FADERS, how, how == 0 || how == 1);
        }
        howIs(FADERS, MIN, false);
        howIs(FADERS, MAX, false);
    }

    private static void howsOfLamps() {
        for (int how = -2; how <= 10; how++) {
            howIs(LAMPS, how, how == 6 || how == 7 || how == 8);
        }
        howIs(LAMPS, MIN, false);
        howIs(LAMPS, MAX, false);
    }

    private static void nudgeNone() {
        for (int sort = 0; sort < 4; sort++) {
            x = new ReelBarn();
            x.mount(0, sort, 1);
            for (int bad : OUTSIDE) {
                due.is("no deck", x.nudge(bad, sort, 0, aHowOf(sort), 1), Due.NONE);
                due.is("no sort", x.nudge(0, bad, 0, aHowOf(sort), 1), Due.NONE);
            }
            due.is("as it was", x.read(0, sort, 0), 0);
        }
    }

    private static void nudgeVacant() {
        x = new ReelBarn();
        for (int sort = 0; sort < 4; sort++) {
            due.is("at first", x.nudge(0, sort, 0, aHowOf(sort), 1), Due.VACANT);
            x.mount(0, sort, 1);
            due.is("another deck", x.nudge(1, sort, 0, aHowOf(sort), 1), Due.VACANT);
        }
    }

    private static void nudgeBeyond() {
        for (int sort = 0; sort < 4; sort++) {
            x = new ReelBarn();
            for (int n : new int[] {0, 1, 40}) {
                x.mount(0, sort, n);
                for (int i : new int[] {-1, n, MIN, MAX}) {
                    due.is(i + " of " + n, x.nudge(0, sort, i, aHowOf(sort), 1), Due.BEYOND);
                }
            }
            due.is("the last as it was", x.read(0, sort, 39), 0);
        }
    }

    private static void nudgeDivided() {
        for (int sort = LETTERS; sort <= WAVES; sort++) {
            x = new ReelBarn();
            x.mount(0, sort, 2);
            x.write(0, sort, 0, 9);
            due.is("9 by 0", x.nudge(0, sort, 0, 3, 0), Due.DIVIDED);
            due.is("as it was", x.read(0, sort, 0), 9);
            due.is("0 by 0", x.nudge(0, sort, 1, 3, 0), Due.DIVIDED);
            due.is("tallied", x.tally(6), 2);
            // The divisor is n, not what n would be as a place.
            due.is("9 by 65536", x.nudge(0, sort, 0, 3, 65536), 0);
        }
    }

    private static void zeroOfOtherHows() {
        for (int how = 0; how <= 8; how++) {
            if (how != 3) {
                nudged(LETTERS, 9, how, 0, how == 2 || how == 7 ? 0 : 9);
                nudged(WAVES, -9, how, 0, how == 2 || how == 7 ? 0 : -9);
            }
        }
        nudged(FADERS, 9, 0, 0, 9);
        nudged(FADERS, 9, 1, 0, 9);
    }

    /** Blends n of sort other into a place told as 'before', as a sum and as a difference. */
    private static void blended(int sort, int before, int other, int n, long sum, long less) {
        x = new ReelBarn();
        x.mount(0, sort, 3);
        x.mount(3, other, 2);
        x.write(3, other, 1, n);
        String call = "sort " + sort + ": " + before + " with sort " + other + ": " + n;
        x.write(0, sort, 1, before);
        due.is(call, x.blend(0, sort, 1, 3, other, 1, false), sum);
        due.is(call + ", read", x.read(0, sort, 1), sum);
        x.write(0, sort, 1, before);
        due.is(call + ", less", x.blend(0, sort, 1, 3, other, 1, true), less);
        due.is(call + ", less, read", x.read(0, sort, 1), less);
        due.is(call + ", what was added stays", x.read(3, other, 1), n);
        due.is(call + ", neighbours", x.read(0, sort, 0) + x.read(0, sort, 2), 0);
    }

    private static void blendedInts() {
        blended(LETTERS, 65535, LETTERS, 65535, 65534, 0);
        blended(LETTERS, 0, LETTERS, 65535, 65535, 1);
        blended(LETTERS, 0, LETTERS, 1, 1, 65535);
        blended(LETTERS, 0, WAVES, -1, 65535, 1);
        blended(LETTERS, 65535, WAVES, -32768, 32767, 32767);
        blended(WAVES, 32767, WAVES, 1, -32768, 32766);
        blended(WAVES, -32768, WAVES, 1, -32767, 32767);
        blended(WAVES, -32768, WAVES, -32768, 0, 0);
        blended(WAVES, 0, LETTERS, 65535, -1, 1);
        blended(WAVES, 0, LETTERS, 32768, -32768, -32768);
    }

    private static void blendedIntoFaders() {
        blended(FADERS, BOUND, FADERS, BOUND, BOUND, 0);
        blended(FADERS, -BOUND, FADERS, BOUND, 0, -BOUND);
        blended(FADERS, BOUND - 1, FADERS, 1, BOUND, BOUND - 2);
        blended(FADERS, 1 - BOUND, FADERS, 1, 2 - BOUND, -BOUND);
        blended(FADERS, 0, LETTERS, 65535, 8 * 65535, -8 * 65535);
        blended(FADERS, BOUND - 1, LETTERS, 1, BOUND, BOUND - 9);
        blended(FADERS, 1 - BOUND, LETTERS, 1, 9 - BOUND, -BOUND);
        blended(FADERS, 1, WAVES, -32768, 1 - 8 * 32768, 1 + 8 * 32768);
        blended(FADERS, BOUND, WAVES, -1, BOUND - 8, BOUND);
        blended(FADERS, -BOUND, WAVES, -1, -BOUND, 8 - BOUND);
    }

    private static void blendedIntoLetters() {
        blended(LETTERS, 0, FADERS, 7, 0, 0);
        blended(LETTERS, 0, FADERS, 8, 1, 65535);
        blended(LETTERS, 0, FADERS, 15, 1, 65535);
        blended(LETTERS, 1, FADERS, 4, 1, 0);
        blended(LETTERS, 65535, FADERS, 7, 65535, 65534);
        blended(LETTERS, 65535, FADERS, 8, 0, 65534);
        blended(LETTERS, 65535, FADERS, -1, 65534, 65535);
        // What comes of it is no FADER, so it isn't bounded: 1065535 and -1000000 are put.
        blended(LETTERS, 65535, FADERS, BOUND, 1065535 & 65535, -934465 & 65535);
        blended(LETTERS, 0, FADERS, -BOUND, -1000000 & 65535, 1000000 & 65535);
    }

    private static void blendedIntoWaves() {
        blended(WAVES, 0, FADERS, 15, 1, -1);
        blended(WAVES, 0, FADERS, -15, -1, 1);
        blended(WAVES, -1, FADERS, 7, 0, -1);
        blended(WAVES, 1, FADERS, -7, 0, 1);
        blended(WAVES, 32767, FADERS, 7, 32767, 32766);
        blended(WAVES, 32767, FADERS, 8, -32768, 32766);
        blended(WAVES, -32768, FADERS, 7, -32767, -32768);
        blended(WAVES, -32768, FADERS, 8, -32767, 32767);
        blended(WAVES, 32767, FADERS, BOUND, (short) 1032767, (short) -967233);
        blended(WAVES, -32768, FADERS, -BOUND, (short) -1032768, (short) 967232);
    }

    private static void blendedLamps() {
        blended(LAMPS, 0, LAMPS, 0, 0, 0);
        blended(LAMPS, 0, LAMPS, 1, 1, 1);
        blended(LAMPS, 1, LAMPS, 0, 1, 1);
        blended(LAMPS, 1, LAMPS, 1, 0, 0);
    }

    private static void blendedWithItself() {
        int[] full = {65535, -32768, BOUND, 1};
        long[] twice = {65534, 0, BOUND, 0};
        for (int sort = 0; sort < 4; sort++) {
            for (int holder = 0; holder < 2; holder++) {
                x = new ReelBarn();
                x.mount(0, sort, 1);
                x.share(0, 1, sort);
                x.write(0, sort, 0, full[sort]);
                due.is("added", x.blend(0, sort, 0, holder, sort, 0, false), twice[sort]);
                x.write(0, sort, 0, full[sort]);
                due.is("taken off", x.blend(0, sort, 0, holder, sort, 0, true), 0);
            }
        }
    }

    private static void blendedEnds() {
        for (int sort = 0; sort < 4; sort++) {
            x = new ReelBarn();
            x.mount(0, sort, 40);
            x.mount(1, sort, 1);
            x.write(1, sort, 0, 1);
            due.is("first into last", x.blend(0, sort, 39, 1, sort, 0, false), 1);
            due.is("last into first", x.blend(0, sort, 0, 0, sort, 39, false), 1);
            due.is("last into a row of one", x.blend(1, sort, 0, 0, sort, 39, true), 0);
        }
    }

    private static void lampsWithOthers() {
        for (int sort = 0; sort < 4; sort++) {
            for (int other = 0; other < 4; other++) {
                x = new ReelBarn();
                x.mount(0, sort, 1);
                x.mount(1, other, 1);
                boolean apart = (sort == LAMPS) != (other == LAMPS);
                due.is("sort " + sort + " with " + other, x.blend(0, sort, 0, 1, other, 0, false),
                        apart ? Due.NONE : 0);
                due.is("tallied", x.tally(1), apart ? 1 : 0);
            }
        }
    }

    private static void blendNone() {
        for (int sort = 0; sort < 4; sort++) {
            x = new ReelBarn();
            x.mount(0, sort, 1);
            for (int bad : OUTSIDE) {
                due.is("no deck", x.blend(bad, sort, 0, 0, sort, 0, false), Due.NONE);
                due.is("no from", x.blend(0, sort, 0, bad, sort, 0, false), Due.NONE);
                due.is("no sort", x.blend(0, bad, 0, 0, sort, 0, false), Due.NONE);
                due.is("no other", x.blend(0, sort, 0, 0, bad, 0, false), Due.NONE);
                due.is("neither sort", x.blend(0, bad, 0, 0, bad, 0, false), Due.NONE);
            }
            due.is("each is tallied once", x.tally(1), 20);
        }
    }

    private static void blendVacant() {
        for (int sort = 0; sort < 4; sort++) {
            x = new ReelBarn();
            x.mount(0, sort, 1);
            due.is("from", x.blend(0, sort, 0, 1, sort, 0, false), Due.VACANT);
            due.is("the deck", x.blend(1, sort, 0, 0, sort, 0, false), Due.VACANT);
            due.is("both, tallied once", x.blend(2, sort, 0, 3, sort, 0, false), Due.VACANT);
            due.is("the tally", x.tally(2), 3);
        }
    }

    private static void blendBeyond() {
        for (int sort = 0; sort < 4; sort++) {
            x = new ReelBarn();
            x.mount(0, sort, 40);
            x.mount(1, sort, 0);
            for (int i : new int[] {-1, 40, MIN, MAX}) {
                due.is("from", x.blend(0, sort, 0, 0, sort, i, false), Due.BEYOND);
                due.is("the deck", x.blend(0, sort, i, 0, sort, 0, false), Due.BEYOND);
                due.is("both", x.blend(0, sort, i, 0, sort, i, false), Due.BEYOND);
            }
            due.is("from an empty one", x.blend(0, sort, 0, 1, sort, 0, false), Due.BEYOND);
            due.is("into an empty one", x.blend(1, sort, 0, 0, sort, 0, false), Due.BEYOND);
            due.is("each is tallied once", x.tally(3), 14);
        }
    }

    private static void fromVacantFirst() {
        for (int sort = 0; sort < 4; sort++) {
            x = new ReelBarn();
            x.mount(0, sort, 1);
            due.is("ahead of the deck's BEYOND", x.blend(0, sort, 1, 1, sort, 0, false), Due.VACANT);
            due.is("and of its own", x.blend(0, sort, 1, 1, sort, -1, true), Due.VACANT);
        }
    }

    private static void fromBeyondFirst() {
        for (int sort = 0; sort < 4; sort++) {
            x = new ReelBarn();
            x.mount(0, sort, 1);
            due.is("ahead of the deck's VACANT", x.blend(1, sort, 0, 0, sort, 1, false), Due.BEYOND);
            due.is("also below", x.blend(1, sort, 0, 0, sort, -1, true), Due.BEYOND);
            due.is("the deck's VACANT is asked then", x.blend(1, sort, 5, 0, sort, 0, true), Due.VACANT);
        }
    }
}
