/** One test for each sentence of promises 1 to 7 and 9 that names a boundary case. */
public final class DeckBoundaryTest {
    private static final int MAX = Integer.MAX_VALUE;
    private static final int MIN = Integer.MIN_VALUE;
    private static final int LETTERS = Due.LETTERS;
    private static final int WAVES = Due.WAVES;
    private static final int FADERS = Due.FADERS;
    private static final int LAMPS = Due.LAMPS;

    /** A FADER at its bound, TOLD. */
    private static final int BOUND = 8000000;

    /** What is neither a deck nor a sort. */
    private static final int[] OUTSIDE = {-1, 4, MIN, MAX};

    private static final Due due = new Due();
    private static ReelBarn x;

    public static void main(String[] args) {
        newObject();
        mount();
        eject();
        share();
        size();
        read();
        write();
        tick();
        due.end();
    }

    private static void newObject() {
        due.sentence("1: No reels", DeckBoundaryTest::newWithoutReels);
        due.sentence("1: no walls", DeckBoundaryTest::newWithoutWalls);
        due.sentence("1: no chart", DeckBoundaryTest::newWithoutChart);
    }

    private static void mount() {
        due.sentence("2: A new reel of n places: n", DeckBoundaryTest::mountEachSize);
        due.sentence("2: for the one there", DeckBoundaryTest::mountForTheOneThere);
        due.sentence("2: NONE", DeckBoundaryTest::mountNone);
        due.sentence("2: GREAT above 40", DeckBoundaryTest::mountGreat);
        due.sentence("2: NEGATIVE", DeckBoundaryTest::mountNegative);
    }

    private static void eject() {
        due.sentence("3: The deck carries the reel no more", DeckBoundaryTest::ejectTakesAway);
        due.sentence("3: (others that have it keep it)", DeckBoundaryTest::ejectOthersKeep);
        due.sentence("3: its size", DeckBoundaryTest::ejectSize);
        due.sentence("3: NONE", DeckBoundaryTest::ejectNone);
        due.sentence("3: VACANT", DeckBoundaryTest::ejectVacant);
    }

    private static void share() {
        due.sentence("4: the same reel: 1 if there is one", DeckBoundaryTest::shareReel);
        due.sentence("4: or none: else 0", DeckBoundaryTest::shareNothing);
        due.sentence("4: Deck to carries what deck from carries: itself", DeckBoundaryTest::shareWithItself);
        due.sentence("4: NONE", DeckBoundaryTest::shareNone);
    }

    private static void size() {
        due.sentence("5: How many places the reel has", DeckBoundaryTest::sizeEnds);
        due.sentence("5: NONE", DeckBoundaryTest::sizeNone);
        due.sentence("5: VACANT", DeckBoundaryTest::sizeVacant);
    }

    private static void read() {
        due.sentence("6: Place i, TOLD: first and last", DeckBoundaryTest::readEnds);
        due.sentence("6: NONE", DeckBoundaryTest::readNone);
        due.sentence("6: VACANT", DeckBoundaryTest::readVacant);
        due.sentence("6: BEYOND", DeckBoundaryTest::readBeyond);
    }

    private static void write() {
        due.sentence("7: Puts n into place i: first and last", DeckBoundaryTest::writeEnds);
        due.sentence("7: the place, TOLD: not n where it wraps", DeckBoundaryTest::writeWraps);
        due.sentence("7: NONE", DeckBoundaryTest::writeNone);
        due.sentence("7: VACANT", DeckBoundaryTest::writeVacant);
        due.sentence("7: BEYOND", DeckBoundaryTest::writeBeyond);
    }

    private static void tick() {
        due.sentence("9: Place i becomes one more (put", DeckBoundaryTest::tickWraps);
        due.sentence("9: FADERS: plus 1.0 as floats)", DeckBoundaryTest::tickFaders);
        due.sentence("9: TOLD behind that, if ahead is true", DeckBoundaryTest::tickAhead);
        due.sentence("9: else as it was", DeckBoundaryTest::tickAsItWas);
        due.sentence("9: LAMPS are NONE", DeckBoundaryTest::tickLamps);
        due.sentence("9: NONE", DeckBoundaryTest::tickNone);
        due.sentence("9: VACANT", DeckBoundaryTest::tickVacant);
        due.sentence("9: BEYOND", DeckBoundaryTest::tickBeyond);
    }

    private static void newWithoutReels() {
        x = new ReelBarn();
        for (int deck = 0; deck < 4; deck++) {
            for (int sort = 0; sort < 4; sort++) {
                due.is("size", x.size(deck, sort), Due.VACANT);
                due.is("eject", x.eject(deck, sort), Due.VACANT);
                due.is("share", x.share(deck, (deck + 1) % 4, sort), 0);
            }
        }
    }

    private static void newWithoutWalls() {
        x = new ReelBarn();
        for (int sort = 0; sort < 4; sort++) {
            due.is("span", x.span(sort, -1), Due.VACANT);
            due.is("spot", x.spot(sort, 0, 0), Due.VACANT);
            due.is("peel", x.peel(sort, 0, 0), Due.VACANT);
        }
    }

    private static void newWithoutChart() {
        x = new ReelBarn();
        due.is("note", x.note(0, 0, 0), Due.VACANT);
    }

    private static void mountEachSize() {
        for (int sort = 0; sort < 4; sort++) {
            x = new ReelBarn();
            for (int n = 0; n <= 40; n++) {
                due.is("mount " + n, x.mount(n % 4, sort, n), n);
                due.is("size", x.size(n % 4, sort), n);
                due.is("no place " + n, x.read(n % 4, sort, n), Due.BEYOND);
            }
        }
    }

    private static void mountForTheOneThere() {
        for (int sort = 0; sort < 4; sort++) {
            x = new ReelBarn();
            x.mount(0, sort, 5);
            x.write(0, sort, 4, 1);
            x.share(0, 1, sort);
            due.is("one as long", x.mount(0, sort, 5), 5);
            due.is("is another", x.read(0, sort, 4), 0);
            due.is("who shared the old one keeps it", x.read(1, sort, 4), 1);
            x.write(0, sort, 3, 1);
            due.is("and knows nothing of the new", x.read(1, sort, 3), 0);
            due.is("an empty one", x.mount(0, sort, 0), 0);
            due.is("is there in its stead", x.read(0, sort, 0), Due.BEYOND);
            due.is("other sorts have none by it", x.size(0, (sort + 1) % 4), Due.VACANT);
        }
    }

    private static void mountNone() {
        x = new ReelBarn();
        for (int bad : OUTSIDE) {
            due.is("no deck", x.mount(bad, 0, 1), Due.NONE);
            due.is("no sort", x.mount(0, bad, 1), Due.NONE);
            due.is("neither", x.mount(bad, bad, 1), Due.NONE);
        }
    }

    private static void mountGreat() {
        for (int sort = 0; sort < 4; sort++) {
            x = new ReelBarn();
            due.is("40 is not", x.mount(0, sort, 40), 40);
            due.is("41", x.mount(0, sort, 41), Due.GREAT);
            due.is("MAX", x.mount(0, sort, MAX), Due.GREAT);
            due.is("the one there stays", x.size(0, sort), 40);
            due.is("41 on a deck without", x.mount(1, sort, 41), Due.GREAT);
            due.is("none comes", x.size(1, sort), Due.VACANT);
        }
    }

    private static void mountNegative() {
        for (int sort = 0; sort < 4; sort++) {
            x = new ReelBarn();
            due.is("0 is not", x.mount(0, sort, 0), 0);
            due.is("-1", x.mount(0, sort, -1), Due.NEGATIVE);
            due.is("MIN", x.mount(0, sort, MIN), Due.NEGATIVE);
            due.is("the one there stays", x.size(0, sort), 0);
            due.is("-1 on a deck without", x.mount(1, sort, -1), Due.NEGATIVE);
            due.is("none comes", x.size(1, sort), Due.VACANT);
        }
    }

    private static void ejectTakesAway() {
        for (int sort = 0; sort < 4; sort++) {
            x = new ReelBarn();
            x.mount(0, sort, 2);
            x.mount(0, (sort + 1) % 4, 3);
            x.eject(0, sort);
            due.is("gone", x.size(0, sort), Due.VACANT);
            due.is("the other sort's stays", x.size(0, (sort + 1) % 4), 3);
            due.is("a new one may come", x.mount(0, sort, 1), 1);
            due.is("and is new", x.read(0, sort, 0), 0);
        }
    }

    private static void ejectOthersKeep() {
        for (int sort = 0; sort < 4; sort++) {
            x = new ReelBarn();
            x.mount(0, sort, 2);
            x.write(0, sort, 1, 1);
            x.share(0, 1, sort);
            x.share(0, 3, sort);
            x.hang(sort, 1, 1);
            x.pin(sort, 0, 0);
            x.eject(0, sort);
            due.is("deck 1", x.read(1, sort, 1), 1);
            x.eject(1, sort);
            due.is("deck 3", x.read(3, sort, 1), 1);
            x.eject(3, sort);
            due.is("the wall, last of all", x.spot(sort, 0, 1), 1);
            due.is("from where it comes back", x.peel(sort, 0, 0), 1);
            due.is("with what is in it", x.read(0, sort, 1), 1);
        }
    }

    private static void ejectSize() {
        for (int sort = 0; sort < 4; sort++) {
            x = new ReelBarn();
            for (int n : new int[] {0, 1, 39, 40}) {
                x.mount(2, sort, n);
                due.is("eject", x.eject(2, sort), n);
            }
        }
    }

    private static void ejectNone() {
        x = new ReelBarn();
        for (int bad : OUTSIDE) {
            due.is("no deck", x.eject(bad, 0), Due.NONE);
            due.is("no sort", x.eject(0, bad), Due.NONE);
        }
    }

    private static void ejectVacant() {
        for (int sort = 0; sort < 4; sort++) {
            x = new ReelBarn();
            due.is("at first", x.eject(0, sort), Due.VACANT);
            x.mount(0, sort, 1);
            due.is("of another deck", x.eject(1, sort), Due.VACANT);
            due.is("of another sort", x.eject(0, (sort + 1) % 4), Due.VACANT);
            x.eject(0, sort);
            due.is("a second time", x.eject(0, sort), Due.VACANT);
        }
    }

    private static void shareReel() {
        for (int sort = 0; sort < 4; sort++) {
            x = new ReelBarn();
            x.mount(3, sort, 0);
            due.is("an empty one", x.share(3, 0, sort), 1);
            due.is("is there", x.size(0, sort), 0);
            x.mount(3, sort, 40);
            due.is("a full one, for the one there", x.share(3, 0, sort), 1);
            x.write(3, sort, 39, 1);
            due.is("put by from", x.read(0, sort, 39), 1);
            x.write(0, sort, 0, 1);
            due.is("put by to", x.read(3, sort, 0), 1);
            due.is("again", x.share(3, 0, sort), 1);
            due.is("back", x.share(0, 3, sort), 1);
            due.is("no other sort", x.size(0, (sort + 1) % 4), Due.VACANT);
        }
    }

    private static void shareNothing() {
        for (int sort = 0; sort < 4; sort++) {
            x = new ReelBarn();
            due.is("none to none", x.share(0, 1, sort), 0);
            x.mount(1, sort, 2);
            x.share(1, 2, sort);
            due.is("none for the one there", x.share(0, 1, sort), 0);
            due.is("it is gone", x.size(1, sort), Due.VACANT);
            due.is("others keep it", x.size(2, sort), 2);
        }
    }

    private static void shareWithItself() {
        for (int sort = 0; sort < 4; sort++) {
            x = new ReelBarn();
            due.is("without a reel", x.share(2, 2, sort), 0);
            due.is("still without", x.size(2, sort), Due.VACANT);
            x.mount(2, sort, 1);
            x.write(2, sort, 0, 1);
            due.is("with one", x.share(2, 2, sort), 1);
            due.is("as it was", x.read(2, sort, 0), 1);
        }
    }

    private static void shareNone() {
        x = new ReelBarn();
        x.mount(0, 0, 1);
        for (int bad : OUTSIDE) {
            due.is("no from", x.share(bad, 0, 0), Due.NONE);
            due.is("no to", x.share(0, bad, 0), Due.NONE);
            due.is("no sort", x.share(0, 1, bad), Due.NONE);
        }
        due.is("as it was", x.size(0, 0), 1);
    }

    private static void sizeEnds() {
        for (int sort = 0; sort < 4; sort++) {
            x = new ReelBarn();
            for (int n : new int[] {0, 1, 39, 40}) {
                x.mount(3, sort, n);
                due.is("size", x.size(3, sort), n);
            }
        }
    }

    private static void sizeNone() {
        x = new ReelBarn();
        for (int bad : OUTSIDE) {
            due.is("no deck", x.size(bad, 0), Due.NONE);
            due.is("no sort", x.size(0, bad), Due.NONE);
        }
    }

    private static void sizeVacant() {
        for (int sort = 0; sort < 4; sort++) {
            x = new ReelBarn();
            x.mount(0, sort, 1);
            due.is("another deck", x.size(1, sort), Due.VACANT);
            due.is("another sort", x.size(0, (sort + 3) % 4), Due.VACANT);
            x.hang(sort, 1, 1);
            due.is("a wall's reel is not a deck's", x.size(2, sort), Due.VACANT);
        }
    }

    private static void readEnds() {
        for (int sort = 0; sort < 4; sort++) {
            for (int n : new int[] {1, 2, 40}) {
                x = new ReelBarn();
                x.mount(0, sort, n);
                due.is("first, 0", x.read(0, sort, 0), 0);
                x.write(0, sort, n - 1, 1);
                due.is("last", x.read(0, sort, n - 1), 1);
                due.is("first", x.read(0, sort, 0), n == 1 ? 1 : 0);
            }
        }
    }

    private static void readNone() {
        x = new ReelBarn();
        x.mount(0, 0, 1);
        for (int bad : OUTSIDE) {
            due.is("no deck", x.read(bad, 0, 0), Due.NONE);
            due.is("no sort", x.read(0, bad, 0), Due.NONE);
        }
    }

    private static void readVacant() {
        x = new ReelBarn();
        for (int sort = 0; sort < 4; sort++) {
            due.is("at first", x.read(0, sort, 0), Due.VACANT);
            x.mount(0, sort, 1);
            x.eject(0, sort);
            due.is("behind eject", x.read(0, sort, 0), Due.VACANT);
        }
    }

    private static void readBeyond() {
        for (int sort = 0; sort < 4; sort++) {
            x = new ReelBarn();
            for (int n : new int[] {0, 1, 40}) {
                x.mount(0, sort, n);
                for (int i : new int[] {-1, n, MIN, MAX}) {
                    due.is("place " + i + " of " + n, x.read(0, sort, i), Due.BEYOND);
                }
            }
        }
    }

    private static void writeEnds() {
        for (int sort = 0; sort < 4; sort++) {
            for (int n : new int[] {1, 2, 40}) {
                x = new ReelBarn();
                x.mount(0, sort, n);
                due.is("last", x.write(0, sort, n - 1, 1), 1);
                due.is("last, read", x.read(0, sort, n - 1), 1);
                due.is("first", x.write(0, sort, 0, 1), 1);
                due.is("first, read", x.read(0, sort, 0), 1);
                due.is("first, back", x.write(0, sort, 0, 0), 0);
                due.is("last as it was", x.read(0, sort, n - 1), n == 1 ? 0 : 1);
            }
        }
    }

    private static void writeWraps() {
        x = new ReelBarn();
        for (int sort = 0; sort < 4; sort++) {
            x.mount(0, sort, 1);
        }
        due.is("letters", x.write(0, LETTERS, 0, 65536), 0);
        due.is("letters below", x.write(0, LETTERS, 0, -1), 65535);
        due.is("waves", x.write(0, WAVES, 0, 32768), -32768);
        due.is("waves below", x.write(0, WAVES, 0, -32769), 32767);
        due.is("faders", x.write(0, FADERS, 0, BOUND + 1), BOUND);
        due.is("faders below", x.write(0, FADERS, 0, -BOUND - 1), -BOUND);
        due.is("lamps", x.write(0, LAMPS, 0, 2), 0);
        due.is("lamps below", x.write(0, LAMPS, 0, -1), 1);
    }

    private static void writeNone() {
        x = new ReelBarn();
        x.mount(0, 0, 1);
        for (int bad : OUTSIDE) {
            due.is("no deck", x.write(bad, 0, 0, 1), Due.NONE);
            due.is("no sort", x.write(0, bad, 0, 1), Due.NONE);
        }
        due.is("as it was", x.read(0, 0, 0), 0);
    }

    private static void writeVacant() {
        x = new ReelBarn();
        for (int sort = 0; sort < 4; sort++) {
            due.is("at first", x.write(0, sort, 0, 1), Due.VACANT);
            due.is("no reel comes of it", x.size(0, sort), Due.VACANT);
        }
    }

    private static void writeBeyond() {
        for (int sort = 0; sort < 4; sort++) {
            x = new ReelBarn();
            for (int n : new int[] {0, 1, 40}) {
                x.mount(0, sort, n);
                for (int i : new int[] {-1, n, MIN, MAX}) {
                    due.is("place " + i + " of " + n, x.write(0, sort, i, 1), Due.BEYOND);
                }
                due.is("as long as it was", x.size(0, sort), n);
            }
            due.is("the last as it was", x.read(0, sort, 39), 0);
        }
    }

    /** Ticks a place holding n, told both ways, and reads what it is then. */
    private static void ticked(int sort, int n, long want) {
        x = new ReelBarn();
        x.mount(0, sort, 2);
        x.write(0, sort, 1, n);
        due.is(n + " ticked", x.tick(0, sort, 1, true), want);
        due.is(n + " ticked, read", x.read(0, sort, 1), want);
        x.write(0, sort, 1, n);
        due.is(n + " as it was", x.tick(0, sort, 1, false), n);
        due.is(n + " as it was, read", x.read(0, sort, 1), want);
        due.is("its neighbour", x.read(0, sort, 0), 0);
    }

    private static void tickWraps() {
        ticked(LETTERS, 0, 1);
        ticked(LETTERS, 65534, 65535);
        ticked(LETTERS, 65535, 0);
        ticked(WAVES, 32766, 32767);
        ticked(WAVES, 32767, -32768);
        ticked(WAVES, -32768, -32767);
        ticked(WAVES, -1, 0);
    }

    private static void tickFaders() {
        ticked(FADERS, 0, 8);
        ticked(FADERS, -1, 7);
        ticked(FADERS, -BOUND, 8 - BOUND);
        ticked(FADERS, BOUND - 9, BOUND - 1);
        ticked(FADERS, BOUND - 8, BOUND);
        ticked(FADERS, BOUND - 7, BOUND);
        ticked(FADERS, BOUND, BOUND);
    }

    private static void tickAhead() {
        for (int sort = LETTERS; sort <= FADERS; sort++) {
            int one = sort == FADERS ? 8 : 1;
            x = new ReelBarn();
            x.mount(0, sort, 40);
            due.is("place 39", x.tick(0, sort, 39, true), one);
            due.is("once more", x.tick(0, sort, 39, true), 2 * one);
        }
    }

    private static void tickAsItWas() {
        for (int sort = LETTERS; sort <= FADERS; sort++) {
            int one = sort == FADERS ? 8 : 1;
            x = new ReelBarn();
            x.mount(0, sort, 40);
            due.is("place 39", x.tick(0, sort, 39, false), 0);
            due.is("once more", x.tick(0, sort, 39, false), one);
            due.is("both were made", x.read(0, sort, 39), 2 * one);
        }
    }

    private static void tickLamps() {
        x = new ReelBarn();
        due.is("without a reel", x.tick(0, LAMPS, 0, true), Due.NONE);
        x.mount(0, LAMPS, 1);
        due.is("with one", x.tick(0, LAMPS, 0, true), Due.NONE);
        due.is("as it was", x.tick(0, LAMPS, 0, false), Due.NONE);
        due.is("beyond", x.tick(0, LAMPS, 1, true), Due.NONE);
        due.is("the lamp stays", x.read(0, LAMPS, 0), 0);
        due.is("each is tallied", x.tally(1), 4);
    }

    private static void tickNone() {
        x = new ReelBarn();
        x.mount(0, 0, 1);
        for (int bad : OUTSIDE) {
            due.is("no deck", x.tick(bad, 0, 0, true), Due.NONE);
            due.is("no sort", x.tick(0, bad, 0, true), Due.NONE);
        }
        due.is("as it was", x.read(0, 0, 0), 0);
    }

    private static void tickVacant() {
        x = new ReelBarn();
        for (int sort = LETTERS; sort <= FADERS; sort++) {
            due.is("ahead", x.tick(0, sort, 0, true), Due.VACANT);
            due.is("as it was", x.tick(0, sort, 0, false), Due.VACANT);
        }
    }

    private static void tickBeyond() {
        for (int sort = LETTERS; sort <= FADERS; sort++) {
            x = new ReelBarn();
            for (int n : new int[] {0, 1, 40}) {
                x.mount(0, sort, n);
                for (int i : new int[] {-1, n, MIN, MAX}) {
                    due.is("ahead, " + i + " of " + n, x.tick(0, sort, i, true), Due.BEYOND);
                    due.is("as it was, " + i + " of " + n, x.tick(0, sort, i, false), Due.BEYOND);
                }
            }
            due.is("the last as it was", x.read(0, sort, 39), 0);
        }
    }
}
