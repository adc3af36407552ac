import java.util.List;

/** One test for each sentence of 'What it is' and of the Terms that names a boundary case. */
public final class TermsBoundaryTest {
    private static final int MAX = Integer.MAX_VALUE;
    private static final int MIN = Integer.MIN_VALUE;
    private static final int LETTERS = Due.LETTERS;
    private static final int WAVES = Due.WAVES;
    private static final int FADERS = Due.FADERS;
    private static final int LAMPS = Due.LAMPS;

    /** A FADER at its bound, TOLD. */
    private static final int BOUND = 8000000;

    private static final Due due = new Due();
    private static ReelBarn x;

    public static void main(String[] args) {
        sortsAndReels();
        decksAndWalls();
        toldAndPut();
        refused();
        order();
        due.end();
    }

    private static void sortsAndReels() {
        due.sentence("at most 512 calls after it has been made", TermsBoundaryTest::lastCall);
        due.sentence("LETTERS (0 .. 65535)", TermsBoundaryTest::lettersEnds);
        due.sentence("WAVES (-32768 .. 32767)", TermsBoundaryTest::wavesEnds);
        due.sentence("FADERS (floats, -1000000 .. 1000000", TermsBoundaryTest::fadersEnds);
        due.sentence("one that would be beyond becomes the bound that it passes: above",
                TermsBoundaryTest::fadersAbove);
        due.sentence("one that would be beyond becomes the bound that it passes: below",
                TermsBoundaryTest::fadersBelow);
        due.sentence("LAMPS (0 or 1)", TermsBoundaryTest::lampsEnds);
        due.sentence("SORTS 0 to 3 and no other", TermsBoundaryTest::noOtherSort);
        due.sentence("a row of 0 to 40 PLACES: empty", TermsBoundaryTest::emptyReel);
        due.sentence("a row of 0 to 40 PLACES: full", TermsBoundaryTest::longestReel);
        due.sentence("each 0 at first", TermsBoundaryTest::placesAtFirst);
    }

    private static void decksAndWalls() {
        due.sentence("DECKS 0 .. 3", TermsBoundaryTest::firstAndLastDeck);
        due.sentence("each carries for each sort one reel", TermsBoundaryTest::oneReelForEachSort);
        due.sentence("or none (at first)", TermsBoundaryTest::noReelAtFirst);
        due.sentence("Decks and walls may have the same reel", TermsBoundaryTest::oneReelForAll);
        due.sentence("A WALL, one for each sort", TermsBoundaryTest::oneWallForEachSort);
        due.sentence("(a wall) or none (at first)", TermsBoundaryTest::noWallAtFirst);
        due.sentence("has 0 to 12 ROWS: none", TermsBoundaryTest::wallWithoutRows);
        due.sentence("has 0 to 12 ROWS: twelve", TermsBoundaryTest::tallestWall);
        due.sentence("each a reel or BARE", TermsBoundaryTest::bareRow);
    }

    private static void toldAndPut() {
        due.sentence("TOLD is: of FADERS its value times 8", TermsBoundaryTest::toldFaders);
        due.sentence("LETTERS become its lowest 16 bits", TermsBoundaryTest::putLetters);
        due.sentence("WAVES these, with sign", TermsBoundaryTest::putWaves);
        due.sentence("LAMPS 1 if n is odd, else 0", TermsBoundaryTest::putLamps);
        due.sentence("FADERS the float that is nearest to n, divided by 8", TermsBoundaryTest::putFaders);
        due.sentence("each sum and difference is the nearest float", TermsBoundaryTest::floatSums);
    }

    private static void refused() {
        due.sentence("REFUSED is, and changes nothing", TermsBoundaryTest::refusedChangesNothing);
        due.sentence("NONE a deck that isn't one", TermsBoundaryTest::noDeck);
        due.sentence("NONE a sort that isn't one", TermsBoundaryTest::noSort);
        due.sentence("NONE a how that isn't one", TermsBoundaryTest::noHow);
        due.sentence("GREAT a size above what is told", TermsBoundaryTest::great);
        due.sentence("NEGATIVE a size below 0", TermsBoundaryTest::negative);
        due.sentence("VACANT a deck that carries no such reel", TermsBoundaryTest::vacantDeck);
        due.sentence("VACANT a sort without a wall", TermsBoundaryTest::vacantSort);
        due.sentence("VACANT no chart", TermsBoundaryTest::vacantChart);
        due.sentence("BARE a row without a reel", TermsBoundaryTest::bare);
        due.sentence("BEYOND a place that isn't there", TermsBoundaryTest::beyondPlace);
        due.sentence("BEYOND a row that isn't there", TermsBoundaryTest::beyondRow);
        due.sentence("DIVIDED by 0", TermsBoundaryTest::divided);
        due.sentence("All answers are numbers as said, or one of these", TermsBoundaryTest::allAnswers);
    }

    private static void order() {
        due.sentence("NONE (asked first): ahead of GREAT", TermsBoundaryTest::noneAheadOfGreat);
        due.sentence("NONE (asked first): ahead of NEGATIVE", TermsBoundaryTest::noneAheadOfNegative);
        due.sentence("NONE (asked first): ahead of VACANT", TermsBoundaryTest::noneAheadOfVacant);
        due.sentence("NONE (asked first): ahead of BEYOND", TermsBoundaryTest::noneAheadOfBeyond);
        due.sentence("NONE (asked first): ahead of DIVIDED", TermsBoundaryTest::noneAheadOfDivided);
        due.sentence("GREAT (asked next): ahead of NEGATIVE", TermsBoundaryTest::greatAheadOfNegative);
        due.sentence("BEYOND (asked behind VACANT)", TermsBoundaryTest::beyondBehindVacant);
        due.sentence("BEYOND (asked behind BARE)", TermsBoundaryTest::beyondBehindBare);
        due.sentence("DIVIDED (asked behind these): VACANT", TermsBoundaryTest::dividedBehindVacant);
        due.sentence("DIVIDED (asked behind these): BEYOND", TermsBoundaryTest::dividedBehindBeyond);
    }

    private static void lastCall() {
        x = new ReelBarn();
        x.mount(0, LETTERS, 1);
        for (int call = 2; call <= 512; call++) {
            due.is("call " + call, x.tick(0, LETTERS, 0, true), call - 1);
        }
        x = new ReelBarn();
        for (int call = 1; call <= 510; call++) {
            due.is("the largest wall, call " + call, x.hang(call % 4, 12, 12), 12);
        }
        due.is("call 511", x.paint(FADERS, 11, 11, BOUND), BOUND);
        due.is("call 512", x.spot(FADERS, 11, 11), BOUND);
        x = new ReelBarn();
        for (int call = 1; call < 512; call++) {
            due.is("refused call " + call, x.size(0, 0), Due.VACANT);
        }
        due.is("tally as call 512", x.tally(2), 511);
    }

    /** A barn whose deck 0 has a reel of three places of each sort, place 1 of this one holding n. */
    private static void holding(int sort, int n) {
        x = new ReelBarn();
        for (int each = 0; each < 4; each++) {
            x.mount(0, each, 3);
        }
        x.write(0, sort, 1, n);
    }

    private static void lettersEnds() {
        holding(LETTERS, 65535);
        due.is("the highest", x.read(0, LETTERS, 1), 65535);
        due.is("one more", x.tick(0, LETTERS, 1, true), 0);
        due.is("the lowest", x.read(0, LETTERS, 1), 0);
        due.is("one less", x.nudge(0, LETTERS, 1, 1, 1), 65535);
    }

    private static void wavesEnds() {
        holding(WAVES, 32767);
        due.is("the highest", x.read(0, WAVES, 1), 32767);
        due.is("one more", x.tick(0, WAVES, 1, true), -32768);
        due.is("the lowest", x.read(0, WAVES, 1), -32768);
        due.is("one less", x.nudge(0, WAVES, 1, 1, 1), 32767);
    }

    private static void fadersEnds() {
        for (int end : new int[] {BOUND, -BOUND}) {
            int inside = end > 0 ? end - 1 : end + 1;
            holding(FADERS, end);
            due.is("the end is held", x.read(0, FADERS, 1), end);
            due.is("put", x.write(0, FADERS, 1, inside), inside);
            due.is("its neighbour inside is not the end", x.read(0, FADERS, 1), inside);
            due.is("the end by a sum", x.nudge(0, FADERS, 1, 0, end - inside), end);
            due.is("back inside", x.nudge(0, FADERS, 1, 1, end - inside), inside);
        }
    }

    private static void fadersAbove() {
        holding(FADERS, BOUND);
        due.is("write", x.write(0, FADERS, 1, BOUND + 1), BOUND);
        due.is("write MAX", x.write(0, FADERS, 1, MAX), BOUND);
        due.is("sum", x.nudge(0, FADERS, 1, 0, 1), BOUND);
        due.is("sum with MAX", x.nudge(0, FADERS, 1, 0, MAX), BOUND);
        due.is("difference", x.nudge(0, FADERS, 1, 1, -1), BOUND);
        due.is("difference with MIN", x.nudge(0, FADERS, 1, 1, MIN), BOUND);
        due.is("tick", x.tick(0, FADERS, 1, true), BOUND);
        due.is("blend with itself", x.blend(0, FADERS, 1, 0, FADERS, 1, false), BOUND);
        x.write(0, LETTERS, 0, 65535);
        due.is("blend with a letter", x.blend(0, FADERS, 1, 0, LETTERS, 0, false), BOUND);
        x.write(0, WAVES, 0, -1);
        due.is("less a wave", x.blend(0, FADERS, 1, 0, WAVES, 0, true), BOUND);
        due.is("it is the bound, nothing above", x.nudge(0, FADERS, 1, 1, 1), BOUND - 1);
        x.hang(FADERS, 1, 1);
        due.is("paint", x.paint(FADERS, 0, 0, MAX), BOUND);
        x.write(0, FADERS, 1, BOUND - 3);
        due.is("passed from inside", x.tick(0, FADERS, 1, true), BOUND);
        x.write(0, FADERS, 1, -BOUND);
        due.is("passed from the other end", x.nudge(0, FADERS, 1, 0, 2 * BOUND + 1), BOUND);
    }

    private static void fadersBelow() {
        holding(FADERS, -BOUND);
        due.is("write", x.write(0, FADERS, 1, -BOUND - 1), -BOUND);
        due.is("write MIN", x.write(0, FADERS, 1, MIN), -BOUND);
        due.is("sum", x.nudge(0, FADERS, 1, 0, -1), -BOUND);
        due.is("sum with MIN", x.nudge(0, FADERS, 1, 0, MIN), -BOUND);
        due.is("difference", x.nudge(0, FADERS, 1, 1, 1), -BOUND);
        due.is("difference with MAX", x.nudge(0, FADERS, 1, 1, MAX), -BOUND);
        due.is("blend with itself", x.blend(0, FADERS, 1, 0, FADERS, 1, false), -BOUND);
        x.write(0, LETTERS, 0, 65535);
        due.is("less a letter", x.blend(0, FADERS, 1, 0, LETTERS, 0, true), -BOUND);
        x.write(0, WAVES, 0, -32768);
        due.is("blend with a wave", x.blend(0, FADERS, 1, 0, WAVES, 0, false), -BOUND);
        due.is("it is the bound, nothing below", x.nudge(0, FADERS, 1, 0, 1), 1 - BOUND);
        x.hang(FADERS, 1, 1);
        due.is("paint", x.paint(FADERS, 0, 0, MIN), -BOUND);
        x.write(0, FADERS, 1, 3 - BOUND);
        due.is("passed from inside", x.nudge(0, FADERS, 1, 1, 8), -BOUND);
        x.write(0, FADERS, 1, BOUND);
        due.is("passed from the other end", x.nudge(0, FADERS, 1, 1, 2 * BOUND + 1), -BOUND);
    }

    private static void lampsEnds() {
        holding(LAMPS, 1);
        due.is("1", x.read(0, LAMPS, 1), 1);
        due.is("1 or 3", x.nudge(0, LAMPS, 1, 8, 3), 1);
        due.is("1 and -1", x.nudge(0, LAMPS, 1, 7, -1), 1);
        due.is("1 exclusive-or 3", x.nudge(0, LAMPS, 1, 6, 3), 0);
        due.is("0 or 2", x.nudge(0, LAMPS, 1, 8, 2), 0);
        due.is("0", x.read(0, LAMPS, 1), 0);
    }

    private static void noOtherSort() {
        x = new ReelBarn();
        due.is("sort 0", x.mount(0, 0, 1), 1);
        due.is("sort 3", x.mount(0, 3, 1), 1);
        due.is("sort -1", x.mount(0, -1, 1), Due.NONE);
        due.is("sort 4", x.mount(0, 4, 1), Due.NONE);
        due.is("sort 0 of a wall", x.hang(0, 1, 1), 1);
        due.is("sort 3 of a wall", x.hang(3, 1, 1), 1);
        due.is("sort -1 of a wall", x.hang(-1, 1, 1), Due.NONE);
        due.is("sort 4 of a wall", x.hang(4, 1, 1), Due.NONE);
    }

    private static void emptyReel() {
        for (int sort = 0; sort < 4; sort++) {
            x = new ReelBarn();
            due.is("mount 0", x.mount(0, sort, 0), 0);
            due.is("its size", x.size(0, sort), 0);
            due.is("it has no place 0", x.read(0, sort, 0), Due.BEYOND);
            due.is("it is a reel all the same", x.share(0, 1, sort), 1);
            x.hang(sort, 1, 1);
            due.is("for a wall too", x.pin(sort, 0, 0), 1);
            due.is("a row without places is not bare", x.span(sort, 0), 0);
            due.is("which a deck may carry", x.peel(sort, 0, 2), 1);
            due.is("eject", x.eject(2, sort), 0);
        }
    }

    private static void longestReel() {
        for (int sort = 0; sort < 4; sort++) {
            x = new ReelBarn();
            due.is("mount 40", x.mount(0, sort, 40), 40);
            due.is("its size", x.size(0, sort), 40);
            due.is("place 0", x.write(0, sort, 0, 1), 1);
            due.is("place 39", x.write(0, sort, 39, 1), 1);
            due.is("no place 40", x.write(0, sort, 40, 1), Due.BEYOND);
            x.hang(sort, 1, 1);
            x.pin(sort, 0, 0);
            due.is("as a row", x.span(sort, 0), 40);
            due.is("its last place as a row's", x.spot(sort, 0, 39), 1);
            due.is("no place 40 in the row", x.spot(sort, 0, 40), Due.BEYOND);
        }
    }

    private static void placesAtFirst() {
        for (int sort = 0; sort < 4; sort++) {
            x = new ReelBarn();
            for (int turn = 0; turn < 2; turn++) {
                x.mount(0, sort, 40);
                for (int i = 0; i < 40; i++) {
                    due.is("place " + i, x.read(0, sort, i), 0);
                    x.write(0, sort, i, -1);
                }
            }
        }
    }

    private static void firstAndLastDeck() {
        x = new ReelBarn();
        due.is("deck 0", x.mount(0, 0, 1), 1);
        due.is("deck 3", x.mount(3, 0, 3), 3);
        due.is("no deck -1", x.mount(-1, 0, 1), Due.NONE);
        due.is("no deck 4", x.mount(4, 0, 1), Due.NONE);
        due.is("deck 0's own", x.size(0, 0), 1);
        due.is("deck 3's own", x.size(3, 0), 3);
    }

    private static void oneReelForEachSort() {
        x = new ReelBarn();
        for (int deck = 0; deck < 4; deck++) {
            for (int sort = 0; sort < 4; sort++) {
                x.mount(deck, sort, 30);
                x.mount(deck, sort, 4 * deck + sort);
            }
        }
        for (int deck = 0; deck < 4; deck++) {
            for (int sort = 0; sort < 4; sort++) {
                due.is("the newer one", x.eject(deck, sort), 4 * deck + sort);
                due.is("no second one below", x.size(deck, sort), Due.VACANT);
            }
        }
    }

    private static void noReelAtFirst() {
        x = new ReelBarn();
        for (int deck = 0; deck < 4; deck++) {
            for (int sort = 0; sort < 4; sort++) {
                due.is("no reel", x.size(deck, sort), Due.VACANT);
            }
        }
    }

    /** Each act that puts something is made on one holder of the reel and looked at by the others. */
    private static void oneReelForAll() {
        for (int sort = 0; sort < 4; sort++) {
            x = new ReelBarn();
            x.mount(0, sort, 2);
            x.share(0, 3, sort);
            x.hang(sort, 2, 1);
            x.pin(sort, 0, 3);
            x.pin(sort, 1, 0);
            thereForAll("write", sort, x.write(0, sort, 1, 1), 1);
            thereForAll("write by the other", sort, x.write(3, sort, 1, 2), sort == LAMPS ? 0 : 2);
            thereForAll("paint", sort, x.paint(sort, 0, 1, 3), sort == LAMPS ? 1 : 3);
            thereForAll("nudge", sort, x.nudge(0, sort, 1, sort == LAMPS ? 8 : 0, 1), sort == LAMPS ? 1 : 4);
            thereForAll("blend", sort, x.blend(0, sort, 1, 3, sort, 1, true), 0);
            if (sort != LAMPS) {
                thereForAll("tick", sort, x.tick(3, sort, 1, true), sort == FADERS ? 8 : 1);
            }
        }
    }

    private static void thereForAll(String call, int sort, long answer, long want) {
        due.is(call, answer, want);
        due.is(call + ", deck 0", x.read(0, sort, 1), want);
        due.is(call + ", deck 3", x.read(3, sort, 1), want);
        due.is(call + ", row 0", x.spot(sort, 0, 1), want);
        due.is(call + ", row 1", x.spot(sort, 1, 1), want);
        due.is(call + ", place 0", x.read(0, sort, 0), 0);
    }

    private static void oneWallForEachSort() {
        x = new ReelBarn();
        for (int sort = 0; sort < 4; sort++) {
            x.hang(sort, 9, 9);
            x.hang(sort, sort + 1, 2 * sort);
        }
        for (int sort = 0; sort < 4; sort++) {
            due.is("rows of the newer one", x.span(sort, -1), sort + 1);
            due.is("places of its rows", x.span(sort, sort), 2 * sort);
        }
    }

    private static void noWallAtFirst() {
        x = new ReelBarn();
        for (int sort = 0; sort < 4; sort++) {
            due.is("no wall", x.span(sort, -1), Due.VACANT);
        }
    }

    private static void wallWithoutRows() {
        for (int sort = 0; sort < 4; sort++) {
            x = new ReelBarn();
            due.is("hang", x.hang(sort, 0, 12), 0);
            due.is("its rows", x.span(sort, -1), 0);
            due.is("no row 0", x.span(sort, 0), Due.BEYOND);
            due.is("no row to pin at", x.pin(sort, 0, 0), Due.BEYOND);
            due.is("no row to peel", x.peel(sort, 0, 0), Due.BEYOND);
        }
    }

    private static void tallestWall() {
        for (int sort = 0; sort < 4; sort++) {
            x = new ReelBarn();
            due.is("hang", x.hang(sort, 12, 1), 12);
            due.is("its rows", x.span(sort, -1), 12);
            due.is("row 11", x.paint(sort, 11, 0, 1), 1);
            due.is("no row 12", x.paint(sort, 12, 0, 1), Due.BEYOND);
            due.is("no row 12 to pin at", x.pin(sort, 12, 0), Due.BEYOND);
        }
    }

    private static void bareRow() {
        for (int sort = 0; sort < 4; sort++) {
            x = new ReelBarn();
            x.hang(sort, 2, 2);
            due.is("a reel at first", x.span(sort, 0), 2);
            due.is("made bare", x.pin(sort, 0, 1), 0);
            due.is("bare", x.span(sort, 0), Due.BARE);
            due.is("a row all the same", x.span(sort, -1), 2);
            due.is("the other is not", x.span(sort, 1), 2);
        }
    }

    private static void toldFaders() {
        int[] eighths = {0, 1, -1, 7, -7, 8, -8, 9, -9, BOUND - 1, 1 - BOUND, BOUND, -BOUND};
        for (int n : eighths) {
            holding(FADERS, n);
            due.is("told " + n, x.read(0, FADERS, 1), n);
        }
    }

    private static void put(int sort, int n, long want) {
        holding(sort, 0);
        due.is("write " + n, x.write(0, sort, 1, n), want);
        due.is("read " + n, x.read(0, sort, 1), want);
        x.hang(sort, 1, 1);
        due.is("paint " + n, x.paint(sort, 0, 0, n), want);
        due.is("spot " + n, x.spot(sort, 0, 0), want);
    }

    private static void putLetters() {
        put(LETTERS, 65535, 65535);
        put(LETTERS, 65536, 0);
        put(LETTERS, 65537, 1);
        put(LETTERS, -1, 65535);
        put(LETTERS, -65535, 1);
        put(LETTERS, -65536, 0);
        put(LETTERS, MIN, 0);
        put(LETTERS, MIN + 1, 1);
        put(LETTERS, MAX, 65535);
    }

    private static void putWaves() {
        put(WAVES, 32767, 32767);
        put(WAVES, 32768, -32768);
        put(WAVES, -32768, -32768);
        put(WAVES, -32769, 32767);
        put(WAVES, 65535, -1);
        put(WAVES, 65536, 0);
        put(WAVES, -65536, 0);
        put(WAVES, -65537, -1);
        put(WAVES, MIN, 0);
        put(WAVES, MAX, -1);
    }

    private static void putLamps() {
        put(LAMPS, 0, 0);
        put(LAMPS, 1, 1);
        put(LAMPS, 2, 0);
        put(LAMPS, -1, 1);
        put(LAMPS, -2, 0);
        put(LAMPS, -3, 1);
        put(LAMPS, 65536, 0);
        put(LAMPS, MAX, 1);
        put(LAMPS, MIN, 0);
        put(LAMPS, MIN + 1, 1);
    }

    private static void putFaders() {
        put(FADERS, 0, 0);
        put(FADERS, 1, 1);
        put(FADERS, -1, -1);
        put(FADERS, BOUND - 1, BOUND - 1);
        put(FADERS, BOUND, BOUND);
        put(FADERS, BOUND + 1, BOUND);
        put(FADERS, (1 << 24) + 1, BOUND);
        put(FADERS, MAX, BOUND);
        put(FADERS, 1 - BOUND, 1 - BOUND);
        put(FADERS, -BOUND, -BOUND);
        put(FADERS, -BOUND - 1, -BOUND);
        put(FADERS, MIN, -BOUND);
    }

    /**
     * Within the bounds floats hold every eighth, so that a sum is off only if n's own float was
     * bounded, or cut to an int, before the sum.
     */
    private static void floatSums() {
        holding(FADERS, -BOUND);
        due.is("from end to end", x.nudge(0, FADERS, 1, 0, 2 * BOUND), BOUND);
        due.is("and back", x.nudge(0, FADERS, 1, 1, 2 * BOUND), -BOUND);
        due.is("one less than that", x.nudge(0, FADERS, 1, 0, 2 * BOUND - 1), BOUND - 1);
        due.is("and back", x.nudge(0, FADERS, 1, 1, 2 * BOUND - 1), -BOUND);
        x.write(0, FADERS, 0, 1);
        x.write(0, FADERS, 1, BOUND - 2);
        due.is("an eighth", x.blend(0, FADERS, 1, 0, FADERS, 0, false), BOUND - 1);
        due.is("an eighth less", x.blend(0, FADERS, 1, 0, FADERS, 0, true), BOUND - 2);
        x.write(0, FADERS, 1, -1);
        due.is("over 0", x.nudge(0, FADERS, 1, 0, 2), 1);
        due.is("to 0", x.nudge(0, FADERS, 1, 1, 1), 0);
    }

    private static void refusedChangesNothing() {
        String untouched = Barns.pictureWithSharing(Barns.stocked());
        for (Barns.Refused each : Barns.refusedByStocked()) {
            x = Barns.stocked();
            due.is(each.call(), each.act().on(x), each.why());
            due.isTrue(each.call() + ": all is as it was", untouched.equals(Barns.pictureWithSharing(x)));
        }
    }

    /** Makes each act on a stocked barn of its own. */
    private static void each(long want, List<Act> acts) {
        for (int k = 0; k < acts.size(); k++) {
            due.is("act " + k, acts.get(k).on(Barns.stocked()), want);
        }
    }

    private static void noDeck() {
        for (int deck : new int[] {-1, 4, MIN, MAX}) {
            each(Due.NONE, List.of(
                    x -> x.mount(deck, 0, 1), x -> x.eject(deck, 0), x -> x.share(deck, 0, 0),
                    x -> x.share(0, deck, 0), x -> x.size(deck, 0), x -> x.read(deck, 0, 0),
                    x -> x.write(deck, 0, 0, 1), x -> x.nudge(deck, 0, 0, 0, 1),
                    x -> x.tick(deck, 0, 0, true)));
            each(Due.NONE, List.of(
                    x -> x.blend(deck, 0, 0, 0, 0, 0, true), x -> x.blend(0, 0, 0, deck, 0, 0, true),
                    x -> x.pin(0, 0, deck), x -> x.peel(0, 0, deck)));
        }
    }

    private static void noSort() {
        for (int sort : new int[] {-1, 4, MIN, MAX}) {
            each(Due.NONE, List.of(
                    x -> x.mount(0, sort, 1), x -> x.eject(0, sort), x -> x.share(0, 0, sort),
                    x -> x.size(0, sort), x -> x.read(0, sort, 0), x -> x.write(0, sort, 0, 1),
                    x -> x.nudge(0, sort, 0, 0, 1), x -> x.tick(0, sort, 0, true)));
            each(Due.NONE, List.of(
                    x -> x.blend(0, sort, 0, 0, 0, 0, true), x -> x.blend(0, 0, 0, 0, sort, 0, true),
                    x -> x.hang(sort, 1, 1), x -> x.pin(sort, 0, 0), x -> x.peel(sort, 0, 0),
                    x -> x.spot(sort, 0, 0), x -> x.paint(sort, 0, 0, 1), x -> x.span(sort, 0),
                    x -> x.span(sort, -1)));
        }
    }

    private static void noHow() {
        for (int sort = 0; sort < 4; sort++) {
            int of = sort;
            for (int how : new int[] {-1, 9, MIN, MAX}) {
                each(Due.NONE, List.of(x -> x.nudge(0, of, 0, how, 1), x -> x.nudge(0, of, 0, how, 0)));
            }
        }
    }

    private static void great() {
        for (int above : new int[] {13, 40, 41, MAX}) {
            each(Due.GREAT, List.of(x -> x.hang(0, above, 1), x -> x.hang(0, 1, above),
                    x -> x.hang(0, above, above), x -> x.chart(above, 1), x -> x.chart(1, above)));
        }
        each(Due.GREAT, List.of(x -> x.mount(0, 0, 41), x -> x.mount(0, 0, MAX)));
        each(12, List.of(x -> x.hang(0, 12, 12), x -> x.chart(12, 12), x -> x.mount(0, 0, 12)));
        each(40, List.of(x -> x.mount(0, 0, 40)));
    }

    private static void negative() {
        for (int below : new int[] {-1, MIN}) {
            each(Due.NEGATIVE, List.of(x -> x.mount(0, 0, below), x -> x.hang(0, below, 1),
                    x -> x.hang(0, 1, below), x -> x.chart(below, 1), x -> x.chart(1, below)));
        }
        each(0, List.of(x -> x.mount(0, 0, 0), x -> x.hang(0, 0, 0), x -> x.chart(0, 0)));
    }

    private static void vacantDeck() {
        each(Due.VACANT, List.of(x -> x.eject(3, 0), x -> x.size(3, 0), x -> x.read(3, 0, 0),
                x -> x.write(3, 0, 0, 1), x -> x.nudge(3, 0, 0, 0, 1), x -> x.tick(3, 0, 0, true),
                x -> x.blend(3, 0, 0, 0, 0, 0, true), x -> x.blend(0, 0, 0, 3, 0, 0, true)));
    }

    private static void vacantSort() {
        each(Due.VACANT, List.of(x -> x.pin(WAVES, 0, 0), x -> x.peel(WAVES, 0, 0),
                x -> x.spot(WAVES, 0, 0), x -> x.paint(WAVES, 0, 0, 1), x -> x.span(WAVES, 0),
                x -> x.span(WAVES, -1)));
    }

    private static void vacantChart() {
        x = new ReelBarn();
        due.is("no chart", x.note(0, 0, 1), Due.VACANT);
        x.hang(0, 2, 2);
        due.is("a wall is no chart", x.note(0, 0, 1), Due.VACANT);
        x.chart(13, 1);
        due.is("a refused chart is none", x.note(0, 0, 1), Due.VACANT);
    }

    private static void bare() {
        each(Due.BARE, List.of(x -> x.spot(0, 1, 0), x -> x.paint(0, 1, 0, 1), x -> x.span(0, 1)));
    }

    private static void beyondPlace() {
        for (int i : new int[] {-1, 2, MIN, MAX}) {
            each(Due.BEYOND, List.of(x -> x.read(0, 0, i), x -> x.write(0, 0, i, 1),
                    x -> x.nudge(0, 0, i, 0, 1), x -> x.tick(0, 0, i, true),
                    x -> x.blend(0, 0, i, 0, 0, 0, true), x -> x.blend(0, 0, 0, 0, 0, i, true),
                    x -> x.spot(0, 0, i), x -> x.paint(0, 0, i, 1), x -> x.note(0, i, 1)));
        }
    }

    private static void beyondRow() {
        for (int r : new int[] {-2, 3, MIN, MAX}) {
            each(Due.BEYOND, List.of(x -> x.pin(0, r, 0), x -> x.peel(0, r, 0), x -> x.spot(0, r, 0),
                    x -> x.paint(0, r, 0, 1), x -> x.span(0, r), x -> x.note(r, 0, 1)));
        }
        each(Due.BEYOND, List.of(x -> x.pin(0, -1, 0), x -> x.peel(0, -1, 0), x -> x.spot(0, -1, 0),
                x -> x.paint(0, -1, 0, 1), x -> x.note(-1, 0, 1), x -> x.note(2, 0, 1)));
    }

    private static void divided() {
        each(Due.DIVIDED, List.of(x -> x.nudge(0, LETTERS, 1, 3, 0), x -> x.nudge(0, WAVES, 1, 3, 0),
                x -> x.nudge(0, LETTERS, 0, 3, 0), x -> x.nudge(0, WAVES, 0, 3, 0)));
        each(5, List.of(x -> x.nudge(0, LETTERS, 1, 3, 1), x -> x.nudge(0, WAVES, 1, 3, 1)));
        each(0, List.of(x -> x.nudge(0, LETTERS, 0, 3, 1), x -> x.nudge(0, WAVES, 0, 3, -1)));
    }

    /** Every act with every mix of four arguments from the ends of the ints and of what is there. */
    private static void allAnswers() {
        int[] ends = {MIN, -1, 0, 3, 4, MAX};
        for (int a : ends) {
            for (int b : ends) {
                for (int c : ends) {
                    for (int d : ends) {
                        x = Barns.stocked();
                        answersOf(a, b, c, d);
                    }
                }
            }
        }
    }

    private static void answersOf(int a, int b, int c, int d) {
        numberOrRefusal(x.read(a, b, c));
        numberOrRefusal(x.write(a, b, c, d));
        for (int how = -1; how <= 9; how++) {
            numberOrRefusal(x.nudge(a, b, c, how, d));
        }
        numberOrRefusal(x.nudge(0, b, c, d, a));
        numberOrRefusal(x.tick(a, b, c, d > 0));
        numberOrRefusal(x.blend(a, b, c, 2, b, d, true));
        numberOrRefusal(x.blend(0, b, 1, a, c, d, false));
        numberOrRefusal(x.size(a, b));
        numberOrRefusal(x.spot(a, b, c));
        numberOrRefusal(x.paint(a, b, c, d));
        numberOrRefusal(x.span(a, b));
        numberOrRefusal(x.note(a, b, c));
        numberOrRefusal(x.peel(a, b, c));
        numberOrRefusal(x.pin(a, b, c));
        numberOrRefusal(x.share(a, b, c));
        numberOrRefusal(x.eject(a, b));
        numberOrRefusal(x.mount(a, b, c));
        numberOrRefusal(x.hang(a, b, c));
        numberOrRefusal(x.chart(a, b));
        due.isTrue("tally", x.tally(a) >= 0);
    }

    private static void numberOrRefusal(long answer) {
        boolean refusal = answer % Due.NONE == 0 && answer >= Due.NONE && answer <= Due.BARE;
        due.isTrue("a number or a refusal: " + answer, refusal || answer == (int) answer);
    }

    private static void noneAheadOfGreat() {
        each(Due.NONE, List.of(x -> x.mount(4, 0, 41), x -> x.mount(0, 4, 41), x -> x.hang(4, 13, 1),
                x -> x.hang(-1, 1, 13)));
    }

    private static void noneAheadOfNegative() {
        each(Due.NONE, List.of(x -> x.mount(-1, 0, -1), x -> x.mount(0, -1, -1), x -> x.hang(4, -1, 1),
                x -> x.hang(-1, 1, -1)));
    }

    private static void noneAheadOfVacant() {
        each(Due.NONE, List.of(x -> x.nudge(3, LETTERS, 0, 9, 1), x -> x.nudge(3, FADERS, 0, 2, 1),
                x -> x.nudge(3, LAMPS, 0, 0, 1), x -> x.tick(3, LAMPS, 0, true),
                x -> x.blend(4, 0, 0, 3, 0, 0, true), x -> x.blend(3, 0, 0, 4, 0, 0, true),
                x -> x.blend(3, 0, 0, 3, LAMPS, 0, true)));
        each(Due.NONE, List.of(x -> x.pin(WAVES, 0, 4), x -> x.peel(WAVES, 0, -1),
                x -> x.blend(3, 4, 0, 3, 0, 0, true), x -> x.blend(3, 0, 0, 3, 4, 0, true)));
    }

    private static void noneAheadOfBeyond() {
        each(Due.NONE, List.of(x -> x.read(4, 0, 9), x -> x.read(0, 4, 9), x -> x.write(4, 0, 9, 1),
                x -> x.nudge(0, LETTERS, 9, -1, 1), x -> x.nudge(0, FADERS, 9, 8, 1),
                x -> x.nudge(0, LAMPS, 9, 5, 1), x -> x.tick(0, LAMPS, 9, true)));
        each(Due.NONE, List.of(x -> x.blend(4, 0, 0, 0, 0, 9, true), x -> x.blend(0, 0, 9, 4, 0, 0, true),
                x -> x.blend(0, 0, 9, 0, LAMPS, 9, true), x -> x.pin(0, 9, 4), x -> x.peel(0, 9, 4),
                x -> x.spot(4, 9, 9), x -> x.paint(4, 9, 9, 1), x -> x.span(4, 9)));
    }

    private static void noneAheadOfDivided() {
        each(Due.NONE, List.of(x -> x.nudge(4, 0, 0, 3, 0), x -> x.nudge(0, 4, 0, 3, 0),
                x -> x.nudge(0, FADERS, 0, 3, 0), x -> x.nudge(0, LAMPS, 0, 3, 0)));
    }

    private static void greatAheadOfNegative() {
        each(Due.GREAT, List.of(x -> x.hang(0, 13, -1), x -> x.hang(0, -1, 13), x -> x.hang(0, MIN, MAX),
                x -> x.chart(13, -1), x -> x.chart(-1, 13), x -> x.chart(MAX, MIN)));
    }

    private static void beyondBehindVacant() {
        for (int i : new int[] {-1, 0, 40}) {
            each(Due.VACANT, List.of(x -> x.read(3, 0, i), x -> x.write(3, 0, i, 1),
                    x -> x.nudge(3, 0, i, 0, 1), x -> x.tick(3, 0, i, true),
                    x -> x.blend(0, 0, 0, 3, 0, i, true), x -> x.blend(3, 0, i, 0, 0, 0, true)));
            each(Due.VACANT, List.of(x -> x.pin(WAVES, i, 0), x -> x.peel(WAVES, i, 0),
                    x -> x.spot(WAVES, i, i), x -> x.paint(WAVES, i, i, 1), x -> x.span(WAVES, i)));
        }
        x = new ReelBarn();
        due.is("no chart ahead of no row", x.note(-1, 0, 1), Due.VACANT);
        due.is("no chart ahead of no place", x.note(0, 12, 1), Due.VACANT);
    }

    private static void beyondBehindBare() {
        for (int c : new int[] {-1, 2, MIN, MAX}) {
            each(Due.BARE, List.of(x -> x.spot(0, 1, c), x -> x.paint(0, 1, c, 1)));
        }
    }

    private static void dividedBehindVacant() {
        each(Due.VACANT, List.of(x -> x.nudge(3, LETTERS, 0, 3, 0), x -> x.nudge(3, WAVES, 0, 3, 0)));
    }

    private static void dividedBehindBeyond() {
        each(Due.BEYOND, List.of(x -> x.nudge(0, LETTERS, 2, 3, 0), x -> x.nudge(0, WAVES, -1, 3, 0)));
    }
}
