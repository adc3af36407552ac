/** One test for each sentence of promises 11 to 19 that names a boundary case. */
public final class WallBoundaryTest {
    private static final int MAX = Integer.MAX_VALUE;
    private static final int MIN = Integer.MIN_VALUE;
    private static final int LETTERS = Due.LETTERS;
    private static final int WAVES = Due.WAVES;
    private static final int FADERS = Due.FADERS;
    private static final int LAMPS = Due.LAMPS;

    /** A FADER at its bound, TOLD. */
    private static final int BOUND = 8000000;

    /** What is neither a deck nor a sort. */
    private static final int[] OUTSIDE = {-1, 4, MIN, MAX};

    private static final Due due = new Due();
    private static ReelBarn x;

    public static void main(String[] args) {
        hang();
        pinAndPeel();
        spotAndPaint();
        span();
        chartAndNote();
        tally();
        due.end();
    }

    private static void hang() {
        due.sentence("11: rows with new reels of as many places as columns", WallBoundaryTest::hangEachShape);
        due.sentence("11: new reels: a row's own, each 0", WallBoundaryTest::hangNewReels);
        due.sentence("11: for the one there", WallBoundaryTest::hangForTheOneThere);
        due.sentence("11: NONE", WallBoundaryTest::hangNone);
        due.sentence("11: GREAT (rows above 12)", WallBoundaryTest::hangGreatRows);
        due.sentence("11: GREAT (columns above 12)", WallBoundaryTest::hangGreatColumns);
        due.sentence("11: NEGATIVE (one of them below 0", WallBoundaryTest::hangNegative);
        due.sentence("11: also columns without rows)", WallBoundaryTest::hangNegativeWithoutRows);
    }

    private static void pinAndPeel() {
        due.sentence("12: the same reel: 1 if there is one", WallBoundaryTest::pinReel);
        due.sentence("12: or bare: else 0", WallBoundaryTest::pinNothing);
        due.sentence("12: NONE", WallBoundaryTest::pinNone);
        due.sentence("12: VACANT (without a wall)", WallBoundaryTest::pinVacant);
        due.sentence("12: BEYOND", WallBoundaryTest::pinBeyond);
        due.sentence("13: the same reel: 1 if there is one", WallBoundaryTest::peelReel);
        due.sentence("13: or none: else 0", WallBoundaryTest::peelNothing);
        due.sentence("13: NONE", WallBoundaryTest::peelNone);
        due.sentence("13: VACANT (without a wall)", WallBoundaryTest::peelVacant);
        due.sentence("13: BEYOND", WallBoundaryTest::peelBeyond);
    }

    private static void spotAndPaint() {
        due.sentence("14: Place c of row r: first and last", WallBoundaryTest::spotEnds);
        due.sentence("14: NONE", WallBoundaryTest::spotNone);
        due.sentence("14: VACANT", WallBoundaryTest::spotVacant);
        due.sentence("14: BEYOND (the row)", WallBoundaryTest::spotBeyondRow);
        due.sentence("14: BARE", WallBoundaryTest::spotBare);
        due.sentence("14: BEYOND (the place)", WallBoundaryTest::spotBeyondPlace);
        due.sentence("15: Puts n into place c of row r", WallBoundaryTest::paintEnds);
        due.sentence("15: the place, TOLD: not n where it wraps", WallBoundaryTest::paintWraps);
        due.sentence("15: Refused as spot()", WallBoundaryTest::paintRefused);
    }

    private static void span() {
        due.sentence("16: How many places row r has", WallBoundaryTest::spanPlaces);
        due.sentence("16: for r -1 how many rows the wall has", WallBoundaryTest::spanRows);
        due.sentence("16: NONE", WallBoundaryTest::spanNone);
        due.sentence("16: VACANT", WallBoundaryTest::spanVacant);
        due.sentence("16: BEYOND (another r)", WallBoundaryTest::spanBeyond);
        due.sentence("16: BARE", WallBoundaryTest::spanBare);
    }

    private static void chartAndNote() {
        due.sentence("17: rows of as many ints as columns", WallBoundaryTest::chartEachShape);
        due.sentence("17: each 0, for the one there", WallBoundaryTest::chartForTheOneThere);
        due.sentence("17: GREAT (rows above 12)", WallBoundaryTest::chartGreatRows);
        due.sentence("17: GREAT (columns above 12)", WallBoundaryTest::chartGreatColumns);
        due.sentence("17: NEGATIVE (one of them below 0", WallBoundaryTest::chartNegative);
        due.sentence("17: also columns without rows)", WallBoundaryTest::chartNegativeWithoutRows);
        due.sentence("18: becomes n more, wrapping", WallBoundaryTest::noteWraps);
        due.sentence("18: what it is then: first and last", WallBoundaryTest::noteEnds);
        due.sentence("18: VACANT", WallBoundaryTest::noteVacant);
        due.sentence("18: BEYOND", WallBoundaryTest::noteBeyond);
    }

    private static void tally() {
        due.sentence("19: How many acts were refused: none at first", WallBoundaryTest::tallyAtFirst);
        due.sentence("19: what 1 as NONE, .. 7 BARE", WallBoundaryTest::tallyOfEachAct);
        due.sentence("19: How many acts were refused: no others", WallBoundaryTest::tallyOfNumbers);
        due.sentence("19: 0 for another what", WallBoundaryTest::tallyOfAnotherWhat);
    }

    private static void hangEachShape() {
        int[] ends = {0, 1, 11, 12};
        for (int sort = 0; sort < 4; sort++) {
            x = new ReelBarn();
            for (int rows : ends) {
                for (int columns : ends) {
                    due.is("hang " + rows + ", " + columns, x.hang(sort, rows, columns), rows);
                    due.is("its rows", x.span(sort, -1), rows);
                    due.is("its last row", x.span(sort, rows - 1), rows == 0 ? 0 : columns);
                    due.is("no row more", x.span(sort, rows), Due.BEYOND);
                }
            }
        }
    }

    private static void hangNewReels() {
        for (int sort = 0; sort < 4; sort++) {
            x = new ReelBarn();
            x.hang(sort, 12, 12);
            x.paint(sort, 5, 7, 1);
            for (int r = 0; r < 12; r++) {
                for (int c = 0; c < 12; c++) {
                    due.is("row " + r + ", place " + c, x.spot(sort, r, c), r == 5 && c == 7 ? 1 : 0);
                }
            }
            due.is("no deck has one", x.size(0, sort), Due.VACANT);
            due.is("no other sort has a wall", x.span((sort + 1) % 4, -1), Due.VACANT);
        }
    }

    private static void hangForTheOneThere() {
        for (int sort = 0; sort < 4; sort++) {
            x = new ReelBarn();
            x.hang(sort, 2, 2);
            x.paint(sort, 1, 1, 1);
            x.pin(sort, 0, 0);
            x.peel(sort, 1, 3);
            due.is("one of the same shape", x.hang(sort, 2, 2), 2);
            due.is("is another", x.spot(sort, 1, 1), 0);
            due.is("no row is bare", x.span(sort, 0), 2);
            due.is("who has an old row keeps it", x.read(3, sort, 1), 1);
            due.is("one without rows", x.hang(sort, 0, 0), 0);
            due.is("is there in its stead", x.span(sort, 0), Due.BEYOND);
        }
    }

    private static void hangNone() {
        x = new ReelBarn();
        for (int bad : OUTSIDE) {
            due.is("no sort", x.hang(bad, 1, 1), Due.NONE);
            due.is("no sort, nothing to hang", x.hang(bad, 0, 0), Due.NONE);
        }
    }

    /** Asks for a wall that is refused; the one there stays. */
    private static void hangRefused(int rows, int columns, long why) {
        for (int sort = 0; sort < 4; sort++) {
            x = new ReelBarn();
            String call = "hang " + rows + ", " + columns;
            due.is(call, x.hang(sort, rows, columns), why);
            due.is(call + ": still none", x.span(sort, -1), Due.VACANT);
            x.hang(sort, 12, 12);
            x.paint(sort, 11, 11, 1);
            due.is(call + " for one", x.hang(sort, rows, columns), why);
            due.is(call + ": it stays", x.spot(sort, 11, 11), 1);
        }
    }

    private static void hangGreatRows() {
        hangRefused(13, 12, Due.GREAT);
        hangRefused(13, 0, Due.GREAT);
        hangRefused(MAX, 1, Due.GREAT);
        hangRefused(13, -1, Due.GREAT);
    }

    private static void hangGreatColumns() {
        hangRefused(12, 13, Due.GREAT);
        hangRefused(0, 13, Due.GREAT);
        hangRefused(1, MAX, Due.GREAT);
        hangRefused(-1, 13, Due.GREAT);
    }

    private static void hangNegative() {
        hangRefused(-1, 12, Due.NEGATIVE);
        hangRefused(-1, 0, Due.NEGATIVE);
        hangRefused(12, -1, Due.NEGATIVE);
        hangRefused(-1, -1, Due.NEGATIVE);
        hangRefused(MIN, 1, Due.NEGATIVE);
        hangRefused(1, MIN, Due.NEGATIVE);
    }

    private static void hangNegativeWithoutRows() {
        hangRefused(0, -1, Due.NEGATIVE);
        hangRefused(0, MIN, Due.NEGATIVE);
    }

    private static void pinReel() {
        for (int sort = 0; sort < 4; sort++) {
            x = new ReelBarn();
            x.hang(sort, 12, 1);
            x.mount(3, sort, 40);
            due.is("at the last row", x.pin(sort, 11, 3), 1);
            due.is("longer than the wall is wide", x.span(sort, 11), 40);
            x.write(3, sort, 39, 1);
            due.is("put by the deck", x.spot(sort, 11, 39), 1);
            x.paint(sort, 11, 0, 1);
            due.is("put by the wall", x.read(3, sort, 0), 1);
            x.mount(0, sort, 0);
            due.is("an empty one at the first row", x.pin(sort, 0, 0), 1);
            due.is("no places, but not bare", x.span(sort, 0), 0);
            due.is("the other rows stay", x.span(sort, 1), 1);
            x.mount(3, sort, 2);
            due.is("the deck's next reel is not the wall's", x.span(sort, 11), 40);
        }
    }

    private static void pinNothing() {
        for (int sort = 0; sort < 4; sort++) {
            x = new ReelBarn();
            x.hang(sort, 2, 2);
            x.peel(sort, 0, 1);
            due.is("none", x.pin(sort, 0, 0), 0);
            due.is("bare", x.span(sort, 0), Due.BARE);
            due.is("none at a bare one", x.pin(sort, 0, 0), 0);
            due.is("still bare", x.span(sort, 0), Due.BARE);
            due.is("who has the reel keeps it", x.size(1, sort), 2);
            due.is("back", x.pin(sort, 0, 1), 1);
            due.is("bare no more", x.span(sort, 0), 2);
        }
    }

    private static void pinNone() {
        for (int sort = 0; sort < 4; sort++) {
            x = new ReelBarn();
            x.hang(sort, 1, 1);
            for (int bad : OUTSIDE) {
                due.is("no deck", x.pin(sort, 0, bad), Due.NONE);
                due.is("no sort", x.pin(bad, 0, 0), Due.NONE);
            }
            due.is("as it was", x.span(sort, 0), 1);
        }
    }

    private static void pinVacant() {
        for (int sort = 0; sort < 4; sort++) {
            x = new ReelBarn();
            due.is("without reel and wall", x.pin(sort, 0, 0), Due.VACANT);
            x.mount(0, sort, 1);
            due.is("without a wall", x.pin(sort, 0, 0), Due.VACANT);
            x.hang((sort + 1) % 4, 1, 1);
            due.is("another sort's wall", x.pin(sort, 0, 0), Due.VACANT);
        }
    }

    private static void pinBeyond() {
        for (int sort = 0; sort < 4; sort++) {
            x = new ReelBarn();
            x.mount(0, sort, 1);
            for (int rows : new int[] {0, 1, 12}) {
                x.hang(sort, rows, 2);
                for (int r : new int[] {-1, rows, MIN, MAX}) {
                    due.is("with a reel", x.pin(sort, r, 0), Due.BEYOND);
                    due.is("with none", x.pin(sort, r, 1), Due.BEYOND);
                }
            }
            due.is("the last as it was", x.span(sort, 11), 2);
        }
    }

    private static void peelReel() {
        for (int sort = 0; sort < 4; sort++) {
            x = new ReelBarn();
            x.hang(sort, 12, 12);
            due.is("the last row", x.peel(sort, 11, 3), 1);
            due.is("its size", x.size(3, sort), 12);
            x.write(3, sort, 11, 1);
            due.is("put by the deck", x.spot(sort, 11, 11), 1);
            x.paint(sort, 11, 0, 1);
            due.is("put by the wall", x.read(3, sort, 0), 1);
            due.is("two decks", x.peel(sort, 11, 0), 1);
            due.is("have the same", x.read(0, sort, 11), 1);
            x.hang(sort, 1, 0);
            due.is("an empty one for the one there", x.peel(sort, 0, 0), 1);
            due.is("is there", x.size(0, sort), 0);
            due.is("the row is not bare by it", x.span(sort, 0), 0);
        }
    }

    private static void peelNothing() {
        for (int sort = 0; sort < 4; sort++) {
            x = new ReelBarn();
            x.hang(sort, 1, 1);
            x.pin(sort, 0, 0);
            due.is("none to none", x.peel(sort, 0, 1), 0);
            due.is("still none", x.size(1, sort), Due.VACANT);
            x.mount(1, sort, 2);
            x.share(1, 2, sort);
            due.is("none for the one there", x.peel(sort, 0, 1), 0);
            due.is("it is gone", x.size(1, sort), Due.VACANT);
            due.is("others keep it", x.size(2, sort), 2);
            due.is("a bare row is not refused", x.tally(7), 0);
        }
    }

    private static void peelNone() {
        for (int sort = 0; sort < 4; sort++) {
            x = new ReelBarn();
            x.hang(sort, 1, 1);
            for (int bad : OUTSIDE) {
                due.is("no deck", x.peel(sort, 0, bad), Due.NONE);
                due.is("no sort", x.peel(bad, 0, 0), Due.NONE);
            }
            due.is("as it was", x.size(0, sort), Due.VACANT);
        }
    }

    private static void peelVacant() {
        for (int sort = 0; sort < 4; sort++) {
            x = new ReelBarn();
            x.mount(0, sort, 1);
            due.is("without a wall", x.peel(sort, 0, 0), Due.VACANT);
            x.hang((sort + 3) % 4, 1, 1);
            due.is("another sort's wall", x.peel(sort, 0, 0), Due.VACANT);
            due.is("the deck's reel stays", x.size(0, sort), 1);
        }
    }

    private static void peelBeyond() {
        for (int sort = 0; sort < 4; sort++) {
            x = new ReelBarn();
            x.mount(0, sort, 7);
            for (int rows : new int[] {0, 1, 12}) {
                x.hang(sort, rows, 2);
                for (int r : new int[] {-1, rows, MIN, MAX}) {
                    due.is("row " + r + " of " + rows, x.peel(sort, r, 0), Due.BEYOND);
                }
            }
            due.is("the deck's reel stays", x.size(0, sort), 7);
        }
    }

    private static void spotEnds() {
        for (int sort = 0; sort < 4; sort++) {
            x = new ReelBarn();
            x.hang(sort, 12, 12);
            due.is("first, 0", x.spot(sort, 0, 0), 0);
            x.paint(sort, 11, 11, 1);
            due.is("last", x.spot(sort, 11, 11), 1);
            due.is("first, still 0", x.spot(sort, 0, 0), 0);
            x.mount(0, sort, 40);
            x.write(0, sort, 39, 1);
            x.pin(sort, 11, 0);
            due.is("last of a longer row", x.spot(sort, 11, 39), 1);
        }
    }

    private static void spotNone() {
        x = Barns.stocked();
        for (int bad : OUTSIDE) {
            due.is("no sort", x.spot(bad, 0, 0), Due.NONE);
        }
    }

    private static void spotVacant() {
        x = new ReelBarn();
        for (int sort = 0; sort < 4; sort++) {
            due.is("without a wall", x.spot(sort, 0, 0), Due.VACANT);
            x.mount(0, sort, 1);
            due.is("a deck's reel is not a wall's", x.spot(sort, 0, 0), Due.VACANT);
        }
    }

    private static void spotBeyondRow() {
        for (int sort = 0; sort < 4; sort++) {
            x = new ReelBarn();
            for (int rows : new int[] {0, 1, 12}) {
                x.hang(sort, rows, 1);
                for (int r : new int[] {-1, rows, MIN, MAX}) {
                    due.is("row " + r + " of " + rows, x.spot(sort, r, 0), Due.BEYOND);
                }
            }
            x.pin(sort, 0, 0);
            due.is("a bare row elsewhere", x.spot(sort, 12, 0), Due.BEYOND);
            due.is("none is BARE", x.tally(7), 0);
        }
    }

    private static void spotBare() {
        for (int sort = 0; sort < 4; sort++) {
            x = new ReelBarn();
            x.hang(sort, 2, 2);
            x.pin(sort, 1, 0);
            due.is("place 0", x.spot(sort, 1, 0), Due.BARE);
            due.is("place -1", x.spot(sort, 1, -1), Due.BARE);
            due.is("place 2", x.spot(sort, 1, 2), Due.BARE);
            due.is("the other row", x.spot(sort, 0, 0), 0);
            due.is("none is BEYOND", x.tally(3), 0);
        }
    }

    private static void spotBeyondPlace() {
        for (int sort = 0; sort < 4; sort++) {
            x = new ReelBarn();
            for (int columns : new int[] {0, 1, 12}) {
                x.hang(sort, 1, columns);
                for (int c : new int[] {-1, columns, MIN, MAX}) {
                    due.is("place " + c + " of " + columns, x.spot(sort, 0, c), Due.BEYOND);
                }
            }
            x.mount(0, sort, 3);
            x.pin(sort, 0, 0);
            due.is("a place of the row that was", x.spot(sort, 0, 3), Due.BEYOND);
        }
    }

    private static void paintEnds() {
        for (int sort = 0; sort < 4; sort++) {
            x = new ReelBarn();
            x.hang(sort, 12, 12);
            due.is("last", x.paint(sort, 11, 11, 1), 1);
            due.is("last, spot", x.spot(sort, 11, 11), 1);
            due.is("first", x.paint(sort, 0, 0, 1), 1);
            due.is("first, spot", x.spot(sort, 0, 0), 1);
            due.is("first, back", x.paint(sort, 0, 0, 0), 0);
            due.is("last as it was", x.spot(sort, 11, 11), 1);
            due.is("the row above", x.spot(sort, 10, 11), 0);
        }
    }

    private static void paintWraps() {
        x = new ReelBarn();
        for (int sort = 0; sort < 4; sort++) {
            x.hang(sort, 1, 1);
        }
        due.is("letters", x.paint(LETTERS, 0, 0, 65536), 0);
        due.is("letters below", x.paint(LETTERS, 0, 0, -1), 65535);
        due.is("waves", x.paint(WAVES, 0, 0, 32768), -32768);
        due.is("waves below", x.paint(WAVES, 0, 0, -32769), 32767);
        due.is("faders", x.paint(FADERS, 0, 0, BOUND + 1), BOUND);
        due.is("faders below", x.paint(FADERS, 0, 0, -BOUND - 1), -BOUND);
        due.is("lamps", x.paint(LAMPS, 0, 0, 2), 0);
        due.is("lamps below", x.paint(LAMPS, 0, 0, -1), 1);
    }

    /** Every row and place from below to beyond, on walls that have each kind of row, or none. */
    private static void paintRefused() {
        int[] rows = {MIN, -1, 0, 1, 2, 3, MAX};
        int[] places = {MIN, -1, 0, 1, 2, MAX};
        for (int sort = -1; sort <= 4; sort++) {
            for (int r : rows) {
                for (int c : places) {
                    x = Barns.stocked();
                    long spot = x.spot(sort, r, c);
                    boolean refused = spot >= Due.NONE;
                    due.is("sort " + sort + ", row " + r + ", place " + c, x.paint(sort, r, c, 1),
                            refused ? spot : 1);
                }
            }
        }
        x = Barns.stocked();
        due.is("NONE", x.paint(4, 0, 0, 1), Due.NONE);
        due.is("VACANT", x.paint(WAVES, 0, 0, 1), Due.VACANT);
        due.is("BEYOND (the row)", x.paint(FADERS, 3, 0, 1), Due.BEYOND);
        due.is("BARE", x.paint(FADERS, 1, 9, 1), Due.BARE);
        due.is("BEYOND (the place)", x.paint(FADERS, 0, 2, 1), Due.BEYOND);
    }

    private static void spanPlaces() {
        for (int sort = 0; sort < 4; sort++) {
            x = new ReelBarn();
            for (int columns : new int[] {0, 1, 12}) {
                x.hang(sort, 12, columns);
                due.is("first row", x.span(sort, 0), columns);
                due.is("last row", x.span(sort, 11), columns);
            }
            x.mount(0, sort, 40);
            x.pin(sort, 11, 0);
            due.is("a longer row", x.span(sort, 11), 40);
        }
    }

    private static void spanRows() {
        for (int sort = 0; sort < 4; sort++) {
            x = new ReelBarn();
            for (int rows = 0; rows <= 12; rows++) {
                x.hang(sort, rows, 12 - rows);
                due.is("rows", x.span(sort, -1), rows);
            }
            for (int r = 0; r < 12; r++) {
                x.pin(sort, r, 0);
            }
            due.is("all of them bare", x.span(sort, -1), 12);
        }
    }

    private static void spanNone() {
        x = Barns.stocked();
        for (int bad : OUTSIDE) {
            due.is("a row", x.span(bad, 0), Due.NONE);
            due.is("the rows", x.span(bad, -1), Due.NONE);
        }
    }

    private static void spanVacant() {
        x = new ReelBarn();
        for (int sort = 0; sort < 4; sort++) {
            due.is("a row", x.span(sort, 0), Due.VACANT);
            due.is("the rows", x.span(sort, -1), Due.VACANT);
        }
    }

    private static void spanBeyond() {
        for (int sort = 0; sort < 4; sort++) {
            x = new ReelBarn();
            for (int rows : new int[] {0, 1, 12}) {
                x.hang(sort, rows, 1);
                for (int r : new int[] {-2, rows, MIN, MAX}) {
                    due.is("row " + r + " of " + rows, x.span(sort, r), Due.BEYOND);
                }
            }
        }
    }

    private static void spanBare() {
        for (int sort = 0; sort < 4; sort++) {
            x = new ReelBarn();
            x.hang(sort, 12, 0);
            x.pin(sort, 0, 0);
            x.pin(sort, 11, 0);
            due.is("first", x.span(sort, 0), Due.BARE);
            due.is("last", x.span(sort, 11), Due.BARE);
            due.is("one without places is not", x.span(sort, 5), 0);
        }
    }

    private static void chartEachShape() {
        int[] ends = {0, 1, 11, 12};
        x = new ReelBarn();
        for (int rows : ends) {
            for (int columns : ends) {
                boolean some = rows > 0 && columns > 0;
                due.is("chart " + rows + ", " + columns, x.chart(rows, columns), rows);
                due.is("its last place", x.note(rows - 1, columns - 1, 3), some ? 3 : Due.BEYOND);
                due.is("no row more", x.note(rows, 0, 1), Due.BEYOND);
                due.is("no place more", x.note(0, columns, 1), Due.BEYOND);
            }
        }
    }

    private static void chartForTheOneThere() {
        x = new ReelBarn();
        for (int turn = 0; turn < 2; turn++) {
            x.chart(12, 12);
            for (int r = 0; r < 12; r++) {
                for (int c = 0; c < 12; c++) {
                    due.is("row " + r + ", place " + c, x.note(r, c, r + 1), r + 1);
                }
            }
        }
    }

    /** Asks for a chart that is refused; the one there stays. */
    private static void chartRefused(int rows, int columns, long why) {
        x = new ReelBarn();
        String call = "chart " + rows + ", " + columns;
        due.is(call, x.chart(rows, columns), why);
        due.is(call + ": still none", x.note(0, 0, 1), Due.VACANT);
        x.chart(12, 12);
        x.note(11, 11, 5);
        due.is(call + " for one", x.chart(rows, columns), why);
        due.is(call + ": it stays", x.note(11, 11, 0), 5);
    }

    private static void chartGreatRows() {
        chartRefused(13, 12, Due.GREAT);
        chartRefused(13, 0, Due.GREAT);
        chartRefused(MAX, 1, Due.GREAT);
        chartRefused(13, -1, Due.GREAT);
    }

    private static void chartGreatColumns() {
        chartRefused(12, 13, Due.GREAT);
        chartRefused(0, 13, Due.GREAT);
        chartRefused(1, MAX, Due.GREAT);
        chartRefused(-1, 13, Due.GREAT);
    }

    private static void chartNegative() {
        chartRefused(-1, 12, Due.NEGATIVE);
        chartRefused(-1, 0, Due.NEGATIVE);
        chartRefused(12, -1, Due.NEGATIVE);
        chartRefused(-1, -1, Due.NEGATIVE);
        chartRefused(MIN, 1, Due.NEGATIVE);
        chartRefused(1, MIN, Due.NEGATIVE);
    }

    private static void chartNegativeWithoutRows() {
        chartRefused(0, -1, Due.NEGATIVE);
        chartRefused(0, MIN, Due.NEGATIVE);
    }

    private static void noteWraps() {
        x = new ReelBarn();
        x.chart(1, 1);
        due.is("up to MAX", x.note(0, 0, MAX), MAX);
        due.is("one more", x.note(0, 0, 1), MIN);
        due.is("one less", x.note(0, 0, -1), MAX);
        due.is("MAX more", x.note(0, 0, MAX), -2);
        due.is("MIN more", x.note(0, 0, MIN), MAX - 1);
        due.is("MIN once more", x.note(0, 0, MIN), -2);
        due.is("nothing more", x.note(0, 0, 0), -2);
    }

    private static void noteEnds() {
        x = new ReelBarn();
        x.chart(12, 12);
        due.is("last", x.note(11, 11, 7), 7);
        due.is("last, more", x.note(11, 11, -9), -2);
        due.is("first", x.note(0, 0, 1), 1);
        due.is("the row above", x.note(10, 11, 0), 0);
        due.is("the place before", x.note(11, 10, 0), 0);
    }

    private static void noteVacant() {
        x = new ReelBarn();
        due.is("at first", x.note(0, 0, 1), Due.VACANT);
        due.is("no chart, no row", x.note(-1, -1, 1), Due.VACANT);
        x.chart(0, 0);
        due.is("one without rows is one", x.note(0, 0, 1), Due.BEYOND);
    }

    private static void noteBeyond() {
        x = new ReelBarn();
        for (int size : new int[] {1, 12}) {
            x.chart(size, size);
            for (int out : new int[] {-1, size, MIN, MAX}) {
                due.is("the row", x.note(out, 0, 1), Due.BEYOND);
                due.is("the place", x.note(0, out, 1), Due.BEYOND);
                due.is("both", x.note(out, out, 1), Due.BEYOND);
            }
        }
        x.chart(12, 0);
        due.is("rows without places", x.note(11, 0, 1), Due.BEYOND);
        x.chart(3, 5);
        due.is("rows and places are not mixed up", x.note(2, 4, 1), 1);
        due.is("the other way round", x.note(4, 2, 1), Due.BEYOND);
    }

    private static void tallyAtFirst() {
        x = new ReelBarn();
        for (int what = 1; what <= 7; what++) {
            due.is("what " + what, x.tally(what), 0);
        }
    }

    /** Each refusal counts once, as what it was answered, and as nothing else. */
    private static void tallyOfEachAct() {
        for (Barns.Refused each : Barns.refusedByStocked()) {
            x = Barns.stocked();
            for (int times = 1; times <= 2; times++) {
                each.act().on(x);
                for (int what = 1; what <= 7; what++) {
                    boolean answered = each.why() == what * Due.NONE;
                    due.is(each.call() + ", what " + what, x.tally(what), answered ? times : 0);
                }
            }
        }
        x = new ReelBarn();
        x.note(0, 0, 1);
        due.is("note without a chart", x.tally(2), 1);
    }

    private static void tallyOfNumbers() {
        x = Barns.stocked();
        x.pin(0, 0, 3);
        x.peel(0, 1, 3);
        x.share(3, 1, 0);
        x.nudge(0, 0, 0, 2, 0);
        x.tally(9);
        for (int what = 1; what <= 7; what++) {
            due.is("what " + what, x.tally(what), 0);
        }
    }

    private static void tallyOfAnotherWhat() {
        x = new ReelBarn();
        x.size(4, 0);
        x.size(0, 0);
        x.chart(13, 0);
        for (int what : new int[] {0, 8, -1, MIN, MAX, 9}) {
            due.is("what " + what, x.tally(what), 0);
        }
        due.is("which is not refused", x.tally(1), 1);
    }
}
