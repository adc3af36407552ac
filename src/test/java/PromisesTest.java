/** Promises 1 to 19, one by one: ordinary inputs, the edges the document names, wrong inputs. */
public final class PromisesTest {
    private static final int MAX = Integer.MAX_VALUE;
    private static final int MIN = Integer.MIN_VALUE;
    private static final int LETTERS = Due.LETTERS;
    private static final int WAVES = Due.WAVES;
    private static final int FADERS = Due.FADERS;
    private static final int LAMPS = Due.LAMPS;

    /** A FADER at its bound, TOLD. */
    private static final int BOUND = 8000000;

    private static final int[] NO_DECKS = {-1, 4, MIN, MAX};
    private static final int[] NO_SORTS = {-1, 4, MIN, MAX};

    private static final Due due = new Due();
    private static ReelBarn x;

    public static void main(String[] args) {
        newObject();
        mount();
        eject();
        share();
        size();
        read();
        writeLettersAndWaves();
        writeFadersAndLamps();
        writeRefused();
        nudgeLetters();
        nudgeWaves();
        nudgeFaders();
        nudgeLamps();
        nudgeRefused();
        tick();
        tickRefused();
        blendInts();
        blendFloats();
        blendLamps();
        blendRefused();
        hang();
        pin();
        peel();
        spotAndPaint();
        spotAndPaintRefused();
        span();
        chart();
        note();
        tally();
        refusedChangesNothing();
        due.end();
    }

    private static void newObject() {
        x = new ReelBarn();
        for (int sort = 0; sort < 4; sort++) {
            for (int deck = 0; deck < 4; deck++) {
                due.is("1: new size", x.size(deck, sort), Due.VACANT);
            }
            due.is("1: new span", x.span(sort, -1), Due.VACANT);
        }
        due.is("1: new note", x.note(0, 0, 1), Due.VACANT);
        due.is("1: new tally(2)", x.tally(2), 21);
        x = new ReelBarn();
        for (int what = 1; what <= 7; what++) {
            due.is("1: new tally", x.tally(what), 0);
        }
        ReelBarn other = new ReelBarn();
        other.mount(0, 0, 1);
        other.hang(0, 1, 1);
        other.chart(1, 1);
        due.is("1: another object's reel", x.size(0, 0), Due.VACANT);
        due.is("1: another object's wall", x.span(0, -1), Due.VACANT);
        due.is("1: another object's chart", x.note(0, 0, 1), Due.VACANT);
        due.is("1: another object's tally", other.tally(2), 0);
    }

    private static void mount() {
        x = new ReelBarn();
        for (int sort = 0; sort < 4; sort++) {
            for (int deck = 0; deck < 4; deck++) {
                int n = 10 * deck + sort;
                due.is("2: mount", x.mount(deck, sort, n), n);
            }
        }
        for (int sort = 0; sort < 4; sort++) {
            for (int deck = 0; deck < 4; deck++) {
                due.is("2: size of its own reel", x.size(deck, sort), 10 * deck + sort);
            }
            due.is("2: mount 40", x.mount(3, sort, 40), 40);
            due.is("2: place 39", x.write(3, sort, 39, 1), 1);
            due.is("2: a new reel for the one there", x.mount(3, sort, 40), 40);
            for (int i = 0; i < 40; i++) {
                due.is("2: each place 0 at first", x.read(3, sort, i), 0);
            }
            due.is("2: mount 41", x.mount(3, sort, 41), Due.GREAT);
            due.is("2: mount MAX", x.mount(3, sort, MAX), Due.GREAT);
            due.is("2: mount -1", x.mount(3, sort, -1), Due.NEGATIVE);
            due.is("2: mount MIN", x.mount(3, sort, MIN), Due.NEGATIVE);
            due.is("2: still there", x.size(3, sort), 40);
            due.is("2: mount 0", x.mount(3, sort, 0), 0);
            due.is("2: size 0", x.size(3, sort), 0);
        }
        for (int bad : NO_DECKS) {
            due.is("2: no deck, good n", x.mount(bad, 0, 1), Due.NONE);
            due.is("2: no deck ahead of GREAT", x.mount(bad, 0, 41), Due.NONE);
        }
        for (int bad : NO_SORTS) {
            due.is("2: no sort, good n", x.mount(0, bad, 1), Due.NONE);
            due.is("2: no sort ahead of NEGATIVE", x.mount(0, bad, -1), Due.NONE);
        }
    }

    private static void eject() {
        for (int sort = 0; sort < 4; sort++) {
            x = new ReelBarn();
            x.mount(0, sort, 7);
            x.share(0, 1, sort);
            x.hang(sort, 1, 1);
            x.pin(sort, 0, 0);
            x.write(0, sort, 6, 1);
            due.is("3: eject", x.eject(0, sort), 7);
            due.is("3: gone", x.size(0, sort), Due.VACANT);
            due.is("3: eject again", x.eject(0, sort), Due.VACANT);
            due.is("3: another deck keeps it", x.read(1, sort, 6), 1);
            due.is("3: a wall keeps it", x.spot(sort, 0, 6), 1);
            x.mount(2, sort, 0);
            due.is("3: eject an empty reel", x.eject(2, sort), 0);
            due.is("3: the empty one is gone", x.eject(2, sort), Due.VACANT);
        }
        for (int bad : NO_DECKS) {
            due.is("3: no deck", x.eject(bad, 0), Due.NONE);
        }
        for (int bad : NO_SORTS) {
            due.is("3: no sort", x.eject(0, bad), Due.NONE);
        }
    }

    private static void share() {
        for (int sort = 0; sort < 4; sort++) {
            x = new ReelBarn();
            x.mount(0, sort, 3);
            x.mount(2, sort, 9);
            due.is("4: share", x.share(0, 2, sort), 1);
            due.is("4: size of the shared", x.size(2, sort), 3);
            x.write(2, sort, 1, 1);
            due.is("4: put by to, there for from", x.read(0, sort, 1), 1);
            x.write(0, sort, 2, 1);
            due.is("4: put by from, there for to", x.read(2, sort, 2), 1);
            due.is("4: share with itself", x.share(0, 0, sort), 1);
            due.is("4: its reel stays", x.read(0, sort, 1), 1);
            x.mount(0, sort, 5);
            due.is("4: a new reel parts them", x.size(2, sort), 3);
            due.is("4: share none", x.share(3, 2, sort), 0);
            due.is("4: none is there", x.size(2, sort), Due.VACANT);
            due.is("4: share none with none", x.share(3, 3, sort), 0);
            due.is("4: another sort is left alone", x.size(2, (sort + 1) % 4), Due.VACANT);
        }
        for (int bad : NO_DECKS) {
            due.is("4: no from", x.share(bad, 0, 0), Due.NONE);
            due.is("4: no to", x.share(0, bad, 0), Due.NONE);
        }
        for (int bad : NO_SORTS) {
            due.is("4: no sort", x.share(0, 1, bad), Due.NONE);
        }
    }

    private static void size() {
        x = new ReelBarn();
        for (int sort = 0; sort < 4; sort++) {
            due.is("5: vacant", x.size(1, sort), Due.VACANT);
            x.mount(1, sort, 11 + sort);
            due.is("5: size", x.size(1, sort), 11 + sort);
            due.is("5: another deck", x.size(2, sort), Due.VACANT);
        }
        for (int bad : NO_DECKS) {
            due.is("5: no deck", x.size(bad, 0), Due.NONE);
        }
        for (int bad : NO_SORTS) {
            due.is("5: no sort", x.size(0, bad), Due.NONE);
        }
    }

    private static void read() {
        x = new ReelBarn();
        for (int sort = 0; sort < 4; sort++) {
            due.is("6: vacant ahead of beyond", x.read(0, sort, -1), Due.VACANT);
            x.mount(0, sort, 2);
            due.is("6: 0 at first", x.read(0, sort, 0), 0);
            x.write(0, sort, 1, 13);
            due.is("6: what is there", x.read(0, sort, 1), sort == LAMPS ? 1 : 13);
            due.is("6: beyond", x.read(0, sort, 2), Due.BEYOND);
            due.is("6: before", x.read(0, sort, -1), Due.BEYOND);
            due.is("6: far before", x.read(0, sort, MIN), Due.BEYOND);
            due.is("6: far beyond", x.read(0, sort, MAX), Due.BEYOND);
            x.mount(0, sort, 0);
            due.is("6: no places", x.read(0, sort, 0), Due.BEYOND);
        }
        for (int bad : NO_DECKS) {
            due.is("6: no deck ahead of beyond", x.read(bad, 0, -1), Due.NONE);
        }
        for (int bad : NO_SORTS) {
            due.is("6: no sort ahead of beyond", x.read(0, bad, -1), Due.NONE);
        }
    }

    /** Puts n into a place of the sort and looks at both the answer and what is read then. */
    private static void written(int sort, int n, long want) {
        due.is("7: write sort " + sort + " " + n, x.write(0, sort, 1, n), want);
        due.is("7: read sort " + sort + " " + n, x.read(0, sort, 1), want);
        due.is("7: its neighbour", x.read(0, sort, 0), 0);
    }

    private static void writeLettersAndWaves() {
        x = new ReelBarn();
        x.mount(0, LETTERS, 2);
        written(LETTERS, 65535, 65535);
        written(LETTERS, 65536, 0);
        written(LETTERS, -1, 65535);
        written(LETTERS, 32768, 32768);
        written(LETTERS, MIN, 0);
        written(LETTERS, MAX, 65535);
        written(LETTERS, 0x12345678, 0x5678);
        x.mount(0, WAVES, 2);
        written(WAVES, 32767, 32767);
        written(WAVES, 32768, -32768);
        written(WAVES, -32768, -32768);
        written(WAVES, -32769, 32767);
        written(WAVES, 65535, -1);
        written(WAVES, 65536, 0);
        written(WAVES, MIN, 0);
        written(WAVES, MAX, -1);
    }

    private static void writeFadersAndLamps() {
        x = new ReelBarn();
        x.mount(0, FADERS, 2);
        written(FADERS, 1, 1);
        written(FADERS, -1, -1);
        written(FADERS, 7, 7);
        written(FADERS, BOUND - 1, BOUND - 1);
        written(FADERS, BOUND, BOUND);
        written(FADERS, BOUND + 1, BOUND);
        written(FADERS, MAX, BOUND);
        written(FADERS, 1 - BOUND, 1 - BOUND);
        written(FADERS, -BOUND, -BOUND);
        written(FADERS, -BOUND - 1, -BOUND);
        written(FADERS, MIN, -BOUND);
        x.mount(0, LAMPS, 2);
        written(LAMPS, 1, 1);
        written(LAMPS, 2, 0);
        written(LAMPS, 3, 1);
        written(LAMPS, 0, 0);
        written(LAMPS, -1, 1);
        written(LAMPS, -2, 0);
        written(LAMPS, MAX, 1);
        written(LAMPS, MIN, 0);
    }

    private static void writeRefused() {
        x = new ReelBarn();
        for (int sort = 0; sort < 4; sort++) {
            due.is("7: vacant ahead of beyond", x.write(0, sort, -1, 1), Due.VACANT);
            x.mount(0, sort, 40);
            due.is("7: beyond", x.write(0, sort, 40, 1), Due.BEYOND);
            due.is("7: before", x.write(0, sort, -1, 1), Due.BEYOND);
            due.is("7: far before", x.write(0, sort, MIN, 1), Due.BEYOND);
            due.is("7: far beyond", x.write(0, sort, MAX, 1), Due.BEYOND);
            for (int i = 0; i < 40; i++) {
                due.is("7: all as it was", x.read(0, sort, i), 0);
            }
        }
        for (int bad : NO_DECKS) {
            due.is("7: no deck", x.write(bad, 0, -1, 1), Due.NONE);
        }
        for (int bad : NO_SORTS) {
            due.is("7: no sort", x.write(0, bad, -1, 1), Due.NONE);
        }
    }

    /** Nudges a place that is told as 'before'; looks at the answer and what is read then. */
    private static void nudged(int sort, int before, int how, int n, long want) {
        x = new ReelBarn();
        x.mount(2, sort, 3);
        x.write(2, sort, 1, before);
        String call = "8: sort " + sort + ", " + before + " how " + how + " " + n;
        due.is(call, x.nudge(2, sort, 1, how, n), want);
        due.is(call + ", read", x.read(2, sort, 1), want);
        due.is(call + ", its neighbours", x.read(2, sort, 0) + x.read(2, sort, 2), 0);
    }

    private static void nudgeLetters() {
        nudged(LETTERS, 65535, 0, 1, 0);
        nudged(LETTERS, 10, 0, MAX, 9);
        nudged(LETTERS, 0, 1, 1, 65535);
        nudged(LETTERS, 100, 1, 30, 70);
        nudged(LETTERS, 5, 1, MIN, 5);
        nudged(LETTERS, 65535, 2, 65535, 1);
        nudged(LETTERS, 6, 2, -7, 65494);
        nudged(LETTERS, 100, 3, 7, 14);
        nudged(LETTERS, 100, 3, -7, 65522);
        nudged(LETTERS, 65535, 3, MIN, 0);
        nudged(LETTERS, 65535, 3, -1, 1);
        nudged(LETTERS, 0x8001, 4, 1, 2);
        nudged(LETTERS, 1, 4, 15, 32768);
        nudged(LETTERS, 1, 4, 16, 0);
        nudged(LETTERS, 1, 4, 33, 2);
        nudged(LETTERS, 3, 4, -32, 3);
        nudged(LETTERS, 1, 4, -1, 0);
        nudged(LETTERS, 0x8000, 5, 15, 1);
        nudged(LETTERS, 0x8000, 5, 16, 0);
        nudged(LETTERS, 0x8000, 5, 32, 0x8000);
        nudged(LETTERS, 0x8000, 5, -31, 0x4000);
        nudged(LETTERS, 0xF0F0, 6, 0xFFFFF, 0x0F0F);
        nudged(LETTERS, 0xF0F0, 7, 0xFF, 0xF0);
        nudged(LETTERS, 0xF0F0, 7, -1, 0xF0F0);
        nudged(LETTERS, 0xF0F0, 8, 0x1000F, 0xF0FF);
    }

    private static void nudgeWaves() {
        nudged(WAVES, 32767, 0, 1, -32768);
        nudged(WAVES, -5, 0, 7, 2);
        nudged(WAVES, -32768, 1, 1, 32767);
        nudged(WAVES, 5, 1, 9, -4);
        nudged(WAVES, -300, 2, 300, -24464);
        nudged(WAVES, -32768, 2, -1, -32768);
        nudged(WAVES, -7, 3, 2, -3);
        nudged(WAVES, 7, 3, -2, -3);
        nudged(WAVES, -32768, 3, -1, -32768);
        nudged(WAVES, -32768, 3, MIN, 0);
        nudged(WAVES, -1, 4, 1, -2);
        nudged(WAVES, 0x4000, 4, 1, -32768);
        nudged(WAVES, -1, 4, 32, -1);
        // The place is an int while it moves: the zeros come in at bit 31.
        nudged(WAVES, -1, 5, 4, -1);
        nudged(WAVES, -1, 5, 17, 32767);
        nudged(WAVES, -1, 5, 20, 4095);
        nudged(WAVES, -1, 5, 31, 1);
        nudged(WAVES, -1, 5, -1, 1);
        nudged(WAVES, -2, 5, 64, -2);
        nudged(WAVES, 100, 5, 2, 25);
        nudged(WAVES, -1, 6, 0xFF, -256);
        nudged(WAVES, 1, 6, 0x8000, -32767);
        nudged(WAVES, -1, 7, 0xFFFF, -1);
        nudged(WAVES, -1, 7, 0x7FFF, 32767);
        nudged(WAVES, 1, 8, 0x8000, -32767);
        nudged(WAVES, 1, 8, 0x10000, 1);
    }

    private static void nudgeFaders() {
        nudged(FADERS, 12, 0, 5, 17);
        nudged(FADERS, 12, 1, 25, -13);
        nudged(FADERS, -3, 0, 1, -2);
        nudged(FADERS, BOUND, 0, 1, BOUND);
        nudged(FADERS, BOUND, 1, 1, BOUND - 1);
        nudged(FADERS, -BOUND, 1, 1, -BOUND);
        nudged(FADERS, -BOUND, 0, 1, 1 - BOUND);
        nudged(FADERS, -BOUND, 0, 2 * BOUND - 1, BOUND - 1);
        nudged(FADERS, BOUND, 1, 2 * BOUND - 1, 1 - BOUND);
        nudged(FADERS, -BOUND, 0, MAX, BOUND);
        nudged(FADERS, BOUND, 0, MIN, -BOUND);
        nudged(FADERS, -BOUND, 1, MIN, BOUND);
        nudged(FADERS, BOUND, 1, MAX, -BOUND);
        nudged(FADERS, 9, 0, 0, 9);
    }

    private static void nudgeLamps() {
        for (int lamp = 0; lamp < 2; lamp++) {
            for (int n : new int[] {0, 1, 2, 3, -1, -2, MIN, MAX}) {
                int odd = n & 1;
                nudged(LAMPS, lamp, 6, n, lamp == odd ? 0 : 1);
                nudged(LAMPS, lamp, 7, n, lamp * odd);
                nudged(LAMPS, lamp, 8, n, lamp + odd > 0 ? 1 : 0);
            }
        }
    }

    private static void nudgeRefused() {
        x = new ReelBarn();
        for (int how = -2; how < 11; how++) {
            boolean ofInts = how >= 0 && how <= 8;
            boolean ofFaders = how == 0 || how == 1;
            boolean ofLamps = how >= 6 && how <= 8;
            due.is("8: how " + how, x.nudge(0, LETTERS, 0, how, 0), ofInts ? Due.VACANT : Due.NONE);
            due.is("8: how " + how, x.nudge(0, WAVES, 0, how, 0), ofInts ? Due.VACANT : Due.NONE);
            due.is("8: how " + how, x.nudge(0, FADERS, 0, how, 0), ofFaders ? Due.VACANT : Due.NONE);
            due.is("8: how " + how, x.nudge(0, LAMPS, 0, how, 0), ofLamps ? Due.VACANT : Due.NONE);
        }
        for (int sort = 0; sort < 4; sort++) {
            int how = sort == LAMPS ? 8 : 0;
            x.mount(0, sort, 2);
            due.is("8: beyond", x.nudge(0, sort, 2, how, 1), Due.BEYOND);
            due.is("8: before", x.nudge(0, sort, -1, how, 1), Due.BEYOND);
            due.is("8: far beyond", x.nudge(0, sort, MAX, how, 1), Due.BEYOND);
            due.is("8: no how MIN", x.nudge(0, sort, 0, MIN, 1), Due.NONE);
            due.is("8: no how MAX", x.nudge(0, sort, 0, MAX, 1), Due.NONE);
            for (int bad : NO_DECKS) {
                due.is("8: no deck", x.nudge(bad, sort, 0, how, 1), Due.NONE);
            }
        }
        for (int bad : NO_SORTS) {
            due.is("8: no sort", x.nudge(0, bad, 0, 0, 1), Due.NONE);
        }
        for (int sort = LETTERS; sort <= WAVES; sort++) {
            x.write(0, sort, 0, 77);
            due.is("8: divided", x.nudge(0, sort, 0, 3, 0), Due.DIVIDED);
            due.is("8: as it was", x.read(0, sort, 0), 77);
            due.is("8: beyond ahead of divided", x.nudge(0, sort, 2, 3, 0), Due.BEYOND);
            due.is("8: vacant ahead of divided", x.nudge(1, sort, 0, 3, 0), Due.VACANT);
            due.is("8: none ahead of divided", x.nudge(4, sort, 0, 3, 0), Due.NONE);
        }
        due.is("8: faders are not divided", x.nudge(0, FADERS, 0, 3, 0), Due.NONE);
        due.is("8: lamps are not divided", x.nudge(0, LAMPS, 0, 3, 0), Due.NONE);
    }

    private static void ticked(int sort, int before, long after) {
        x = new ReelBarn();
        x.mount(1, sort, 2);
        x.write(1, sort, 0, before);
        due.is("9: behind, sort " + sort + " " + before, x.tick(1, sort, 0, true), after);
        due.is("9: read", x.read(1, sort, 0), after);
        x.write(1, sort, 0, before);
        due.is("9: as it was, sort " + sort + " " + before, x.tick(1, sort, 0, false), before);
        due.is("9: read", x.read(1, sort, 0), after);
        due.is("9: its neighbour", x.read(1, sort, 1), 0);
    }

    private static void tick() {
        ticked(LETTERS, 0, 1);
        ticked(LETTERS, 32767, 32768);
        ticked(LETTERS, 65535, 0);
        ticked(WAVES, -1, 0);
        ticked(WAVES, 32767, -32768);
        ticked(WAVES, -32768, -32767);
        ticked(FADERS, 0, 8);
        ticked(FADERS, -3, 5);
        ticked(FADERS, BOUND - 8, BOUND);
        ticked(FADERS, BOUND - 3, BOUND);
        ticked(FADERS, BOUND, BOUND);
        ticked(FADERS, -BOUND, 8 - BOUND);
    }

    private static void tickRefused() {
        x = new ReelBarn();
        for (int sort = LETTERS; sort <= FADERS; sort++) {
            due.is("9: vacant ahead of beyond", x.tick(0, sort, -1, true), Due.VACANT);
            x.mount(0, sort, 1);
            due.is("9: beyond", x.tick(0, sort, 1, true), Due.BEYOND);
            due.is("9: before", x.tick(0, sort, -1, false), Due.BEYOND);
            due.is("9: far before", x.tick(0, sort, MIN, false), Due.BEYOND);
            due.is("9: as it was", x.read(0, sort, 0), 0);
        }
        due.is("9: lamps ahead of vacant", x.tick(0, LAMPS, 0, true), Due.NONE);
        x.mount(0, LAMPS, 1);
        due.is("9: lamps", x.tick(0, LAMPS, 0, true), Due.NONE);
        due.is("9: lamps ahead of beyond", x.tick(0, LAMPS, 1, false), Due.NONE);
        due.is("9: the lamp as it was", x.read(0, LAMPS, 0), 0);
        for (int bad : NO_DECKS) {
            due.is("9: no deck", x.tick(bad, 0, -1, true), Due.NONE);
        }
        for (int bad : NO_SORTS) {
            due.is("9: no sort", x.tick(0, bad, -1, true), Due.NONE);
        }
    }

    /** Blends n of sort other into a place that is told as 'before': sum and difference. */
    private static void blended(int sort, int before, int other, int n, long sum, long difference) {
        x = new ReelBarn();
        x.mount(0, sort, 3);
        x.mount(3, other, 5);
        x.write(3, other, 4, n);
        String call = "10: " + before + " of sort " + sort + " with " + n + " of sort " + other;
        x.write(0, sort, 2, before);
        due.is(call + ", sum", x.blend(0, sort, 2, 3, other, 4, false), sum);
        due.is(call + ", sum read", x.read(0, sort, 2), sum);
        x.write(0, sort, 2, before);
        due.is(call + ", less", x.blend(0, sort, 2, 3, other, 4, true), difference);
        due.is(call + ", less read", x.read(0, sort, 2), difference);
        due.is(call + ", the source", x.read(3, other, 4), n);
        due.is(call + ", its neighbours", x.read(0, sort, 0) + x.read(0, sort, 1), 0);
    }

    private static void blendInts() {
        blended(LETTERS, 65535, LETTERS, 2, 1, 65533);
        blended(LETTERS, 1, LETTERS, 2, 3, 65535);
        blended(LETTERS, 10, WAVES, -11, 65535, 21);
        blended(LETTERS, 0, WAVES, -32768, 32768, 32768);
        blended(WAVES, 32767, WAVES, 1, -32768, 32766);
        blended(WAVES, -32768, WAVES, 1, -32767, 32767);
        blended(WAVES, 5, LETTERS, 65535, 4, 6);
        x = new ReelBarn();
        x.mount(0, LETTERS, 2);
        x.write(0, LETTERS, 1, 40000);
        due.is("10: a place with itself", x.blend(0, LETTERS, 1, 0, LETTERS, 1, false), 14464);
        due.is("10: off itself", x.blend(0, LETTERS, 1, 0, LETTERS, 1, true), 0);
    }

    private static void blendFloats() {
        blended(FADERS, 12, FADERS, 5, 17, 7);
        blended(FADERS, BOUND, FADERS, 1, BOUND, BOUND - 1);
        blended(FADERS, -BOUND, FADERS, 1, 1 - BOUND, -BOUND);
        blended(FADERS, 3, LETTERS, 65535, 524283, -524277);
        blended(FADERS, BOUND - 8, LETTERS, 2, BOUND, BOUND - 24);
        blended(FADERS, -BOUND, WAVES, -1, -BOUND, 8 - BOUND);
        blended(FADERS, -4, WAVES, -32768, -262148, 262140);
        blended(LETTERS, 65, FADERS, 20, 67, 62);
        blended(LETTERS, 0, FADERS, 7, 0, 0);
        blended(LETTERS, 0, FADERS, 12, 1, 65535);
        blended(LETTERS, 65535, FADERS, 8, 0, 65534);
        blended(LETTERS, 65535, FADERS, BOUND, 1065535 % 65536, 65535 - 1000000 + 15 * 65536);
        blended(WAVES, -1, FADERS, 4, 0, -1);
        blended(WAVES, 2, FADERS, -28, -1, 5);
        blended(WAVES, 32767, FADERS, 9, -32768, 32765);
        blended(WAVES, -32768, FADERS, 12, -32766, 32767);
        blended(WAVES, 0, FADERS, BOUND, 16960, -16960);
    }

    private static void blendLamps() {
        for (int lamp = 0; lamp < 2; lamp++) {
            for (int by = 0; by < 2; by++) {
                blended(LAMPS, lamp, LAMPS, by, lamp == by ? 0 : 1, lamp == by ? 0 : 1);
            }
        }
        for (int sort = LETTERS; sort <= FADERS; sort++) {
            x = new ReelBarn();
            due.is("10: lamps ahead of vacant", x.blend(0, LAMPS, 0, 0, sort, 0, true), Due.NONE);
            due.is("10: with lamps ahead of vacant", x.blend(0, sort, 0, 0, LAMPS, 0, true), Due.NONE);
            x.mount(0, LAMPS, 1);
            x.mount(0, sort, 1);
            x.write(0, LAMPS, 0, 1);
            x.write(0, sort, 0, 1);
            due.is("10: lamps with others", x.blend(0, LAMPS, 0, 0, sort, 0, false), Due.NONE);
            due.is("10: others with lamps", x.blend(0, sort, 0, 0, LAMPS, 0, false), Due.NONE);
            due.is("10: both as they were", x.read(0, LAMPS, 0) + x.read(0, sort, 0), 2);
        }
    }

    private static void blendRefused() {
        for (int sort = 0; sort < 4; sort++) {
            x = new ReelBarn();
            due.is("10: both vacant", x.blend(0, sort, 0, 1, sort, 0, false), Due.VACANT);
            x.mount(0, sort, 2);
            due.is("10: from vacant ahead of beyond", x.blend(0, sort, 9, 1, sort, 9, false), Due.VACANT);
            x.mount(1, sort, 3);
            due.is("10: from beyond", x.blend(0, sort, 0, 1, sort, 3, false), Due.BEYOND);
            due.is("10: from before", x.blend(0, sort, 0, 1, sort, -1, false), Due.BEYOND);
            due.is("10: beyond", x.blend(0, sort, 2, 1, sort, 2, false), Due.BEYOND);
            due.is("10: before", x.blend(0, sort, -1, 1, sort, 2, false), Due.BEYOND);
            x.eject(0, sort);
            due.is("10: from beyond ahead of vacant", x.blend(0, sort, 0, 1, sort, 3, true), Due.BEYOND);
            due.is("10: vacant behind from", x.blend(0, sort, 9, 1, sort, 2, true), Due.VACANT);
            for (int bad : NO_DECKS) {
                due.is("10: no deck ahead of vacant", x.blend(bad, sort, 0, 2, sort, 0, true), Due.NONE);
                due.is("10: no deck ahead of beyond", x.blend(bad, sort, 0, 1, sort, 3, true), Due.NONE);
                due.is("10: no from", x.blend(1, sort, 0, bad, sort, 0, true), Due.NONE);
            }
            for (int bad : NO_SORTS) {
                due.is("10: no sort", x.blend(1, bad, 0, 1, sort, 0, true), Due.NONE);
                due.is("10: no sort ahead of vacant", x.blend(1, bad, 0, 2, sort, 0, true), Due.NONE);
                due.is("10: no other", x.blend(1, sort, 0, 1, bad, 0, true), Due.NONE);
            }
        }
    }

    private static void hang() {
        for (int sort = 0; sort < 4; sort++) {
            x = new ReelBarn();
            due.is("11: hang 12, 12", x.hang(sort, 12, 12), 12);
            for (int r = 0; r < 12; r++) {
                due.is("11: places of a row", x.span(sort, r), 12);
                for (int c = 0; c < 12; c++) {
                    due.is("11: 0 at first", x.spot(sort, r, c), 0);
                }
            }
            x.paint(sort, 0, 0, 1);
            due.is("11: each row its own reel", x.spot(sort, 1, 0), 0);
            due.is("11: rows GREAT", x.hang(sort, 13, 1), Due.GREAT);
            due.is("11: columns GREAT", x.hang(sort, 1, 13), Due.GREAT);
            due.is("11: columns GREAT without rows", x.hang(sort, 0, 13), Due.GREAT);
            due.is("11: rows GREAT ahead of NEGATIVE", x.hang(sort, MAX, MIN), Due.GREAT);
            due.is("11: columns GREAT ahead of NEGATIVE", x.hang(sort, -1, MAX), Due.GREAT);
            due.is("11: rows NEGATIVE", x.hang(sort, -1, 1), Due.NEGATIVE);
            due.is("11: columns NEGATIVE", x.hang(sort, 1, -1), Due.NEGATIVE);
            due.is("11: columns NEGATIVE without rows", x.hang(sort, 0, MIN), Due.NEGATIVE);
            due.is("11: still there", x.spot(sort, 0, 0), 1);
            due.is("11: a new wall", x.hang(sort, 3, 1), 3);
            due.is("11: for the one there", x.span(sort, -1), 3);
            due.is("11: with new reels", x.spot(sort, 0, 0), 0);
            due.is("11: rows without places", x.hang(sort, 2, 0), 2);
            due.is("11: a row without places", x.span(sort, 1), 0);
            due.is("11: no rows", x.hang(sort, 0, 12), 0);
            due.is("11: a wall all the same", x.span(sort, -1), 0);
            due.is("11: another sort has none", x.span((sort + 1) % 4, -1), Due.VACANT);
            due.is("11: no deck has a reel by it", x.size(0, sort), Due.VACANT);
        }
        for (int bad : NO_SORTS) {
            due.is("11: no sort ahead of GREAT", x.hang(bad, 13, 1), Due.NONE);
            due.is("11: no sort ahead of NEGATIVE", x.hang(bad, 1, -1), Due.NONE);
            due.is("11: no sort", x.hang(bad, 1, 1), Due.NONE);
        }
    }

    private static void pin() {
        for (int sort = 0; sort < 4; sort++) {
            x = new ReelBarn();
            due.is("12: no wall ahead of beyond", x.pin(sort, -1, 0), Due.VACANT);
            x.hang(sort, 2, 3);
            x.mount(1, sort, 40);
            due.is("12: pin", x.pin(sort, 0, 1), 1);
            due.is("12: the deck's reel", x.span(sort, 0), 40);
            x.write(1, sort, 39, 1);
            due.is("12: put by the deck", x.spot(sort, 0, 39), 1);
            x.paint(sort, 0, 38, 1);
            due.is("12: put by the wall", x.read(1, sort, 38), 1);
            due.is("12: the other row", x.span(sort, 1), 3);
            due.is("12: one reel in two rows", x.pin(sort, 1, 1), 1);
            x.paint(sort, 1, 0, 1);
            due.is("12: the same in both", x.spot(sort, 0, 0), 1);
            due.is("12: pin none", x.pin(sort, 0, 2), 0);
            due.is("12: bare", x.span(sort, 0), Due.BARE);
            due.is("12: the deck keeps its own", x.size(1, sort), 40);
            due.is("12: pin into a bare row", x.pin(sort, 0, 1), 1);
            due.is("12: beyond", x.pin(sort, 2, 1), Due.BEYOND);
            due.is("12: before", x.pin(sort, -1, 1), Due.BEYOND);
            due.is("12: far beyond", x.pin(sort, MAX, 1), Due.BEYOND);
            for (int bad : NO_DECKS) {
                due.is("12: no deck ahead of beyond", x.pin(sort, 2, bad), Due.NONE);
                due.is("12: no deck ahead of vacant", x.pin((sort + 1) % 4, 0, bad), Due.NONE);
            }
        }
        for (int bad : NO_SORTS) {
            due.is("12: no sort", x.pin(bad, 0, 0), Due.NONE);
        }
    }

    private static void peel() {
        for (int sort = 0; sort < 4; sort++) {
            x = new ReelBarn();
            due.is("13: no wall ahead of beyond", x.peel(sort, -1, 0), Due.VACANT);
            x.hang(sort, 2, 3);
            x.paint(sort, 1, 2, 1);
            x.mount(0, sort, 9);
            due.is("13: peel", x.peel(sort, 1, 0), 1);
            due.is("13: the row's reel", x.size(0, sort), 3);
            due.is("13: what is in it", x.read(0, sort, 2), 1);
            x.write(0, sort, 0, 1);
            due.is("13: the wall keeps it", x.spot(sort, 1, 0), 1);
            x.hang(sort, 2, 1);
            due.is("13: the deck keeps it", x.read(0, sort, 0), 1);
            x.pin(sort, 0, 3);
            due.is("13: peel a bare row", x.peel(sort, 0, 0), 0);
            due.is("13: the deck has none", x.size(0, sort), Due.VACANT);
            due.is("13: beyond", x.peel(sort, 2, 0), Due.BEYOND);
            due.is("13: before", x.peel(sort, -1, 0), Due.BEYOND);
            due.is("13: far before", x.peel(sort, MIN, 0), Due.BEYOND);
            for (int bad : NO_DECKS) {
                due.is("13: no deck ahead of beyond", x.peel(sort, 2, bad), Due.NONE);
                due.is("13: no deck ahead of vacant", x.peel((sort + 1) % 4, 0, bad), Due.NONE);
            }
        }
        for (int bad : NO_SORTS) {
            due.is("13: no sort", x.peel(bad, 0, 0), Due.NONE);
        }
    }

    private static void painted(int sort, int n, long want) {
        due.is("15: paint sort " + sort + " " + n, x.paint(sort, 1, 2, n), want);
        due.is("14: spot sort " + sort + " " + n, x.spot(sort, 1, 2), want);
        due.is("15: its neighbours", x.spot(sort, 1, 1) + x.spot(sort, 0, 2), 0);
    }

    private static void spotAndPaint() {
        x = new ReelBarn();
        for (int sort = 0; sort < 4; sort++) {
            x.hang(sort, 2, 3);
        }
        painted(LETTERS, 65535, 65535);
        painted(LETTERS, -1, 65535);
        painted(LETTERS, 65536, 0);
        painted(WAVES, 32768, -32768);
        painted(WAVES, -32769, 32767);
        painted(FADERS, -5, -5);
        painted(FADERS, BOUND + 1, BOUND);
        painted(FADERS, MIN, -BOUND);
        painted(LAMPS, -1, 1);
        painted(LAMPS, 4, 0);
    }

    /** Asks spot and paint alike, as they are refused alike. */
    private static void wallRefused(String why, int sort, int r, int c, long want) {
        due.is("14: spot " + why, x.spot(sort, r, c), want);
        due.is("15: paint " + why, x.paint(sort, r, c, 1), want);
    }

    private static void spotAndPaintRefused() {
        for (int sort = 0; sort < 4; sort++) {
            x = new ReelBarn();
            wallRefused("without a wall ahead of beyond", sort, -1, -1, Due.VACANT);
            x.hang(sort, 2, 3);
            x.pin(sort, 0, 0);
            wallRefused("row beyond", sort, 2, 0, Due.BEYOND);
            wallRefused("row before", sort, -1, 0, Due.BEYOND);
            wallRefused("row far beyond", sort, MAX, 0, Due.BEYOND);
            wallRefused("bare ahead of place beyond", sort, 0, 3, Due.BARE);
            wallRefused("bare", sort, 0, 0, Due.BARE);
            wallRefused("place beyond", sort, 1, 3, Due.BEYOND);
            wallRefused("place before", sort, 1, -1, Due.BEYOND);
            wallRefused("place far before", sort, 1, MIN, Due.BEYOND);
            due.is("15: as it was", x.spot(sort, 1, 0), 0);
            x.hang(sort, 1, 0);
            wallRefused("no places", sort, 0, 0, Due.BEYOND);
            x.hang(sort, 0, 5);
            wallRefused("no rows", sort, 0, 0, Due.BEYOND);
        }
        for (int bad : NO_SORTS) {
            wallRefused("no sort", bad, -1, -1, Due.NONE);
        }
    }

    private static void span() {
        for (int sort = 0; sort < 4; sort++) {
            x = new ReelBarn();
            due.is("16: without a wall, rows", x.span(sort, -1), Due.VACANT);
            due.is("16: without a wall ahead of beyond", x.span(sort, -2), Due.VACANT);
            x.hang(sort, 2, 3);
            x.pin(sort, 1, 0);
            due.is("16: rows", x.span(sort, -1), 2);
            due.is("16: places", x.span(sort, 0), 3);
            due.is("16: bare", x.span(sort, 1), Due.BARE);
            due.is("16: beyond", x.span(sort, 2), Due.BEYOND);
            due.is("16: before", x.span(sort, -2), Due.BEYOND);
            due.is("16: far before", x.span(sort, MIN), Due.BEYOND);
            due.is("16: far beyond", x.span(sort, MAX), Due.BEYOND);
        }
        for (int bad : NO_SORTS) {
            due.is("16: no sort, rows", x.span(bad, -1), Due.NONE);
            due.is("16: no sort ahead of beyond", x.span(bad, -2), Due.NONE);
        }
    }

    private static void chart() {
        x = new ReelBarn();
        due.is("17: chart 12, 12", x.chart(12, 12), 12);
        due.is("17: its last place", x.note(11, 11, 5), 5);
        due.is("17: rows GREAT", x.chart(13, 1), Due.GREAT);
        due.is("17: columns GREAT", x.chart(1, 13), Due.GREAT);
        due.is("17: columns GREAT without rows", x.chart(0, MAX), Due.GREAT);
        due.is("17: rows GREAT ahead of NEGATIVE", x.chart(13, -1), Due.GREAT);
        due.is("17: columns GREAT ahead of NEGATIVE", x.chart(MIN, 13), Due.GREAT);
        due.is("17: rows NEGATIVE", x.chart(-1, 1), Due.NEGATIVE);
        due.is("17: columns NEGATIVE", x.chart(1, -1), Due.NEGATIVE);
        due.is("17: columns NEGATIVE without rows", x.chart(0, -1), Due.NEGATIVE);
        due.is("17: still there", x.note(11, 11, 0), 5);
        due.is("17: a new one", x.chart(12, 12), 12);
        for (int r = 0; r < 12; r++) {
            for (int c = 0; c < 12; c++) {
                due.is("17: each 0", x.note(r, c, 0), 0);
            }
        }
        due.is("17: another shape", x.chart(2, 7), 2);
        due.is("17: its row", x.note(1, 6, 1), 1);
        due.is("17: no more rows", x.note(2, 0, 1), Due.BEYOND);
        due.is("17: rows without places", x.chart(4, 0), 4);
        due.is("17: no place", x.note(0, 0, 1), Due.BEYOND);
        due.is("17: no rows", x.chart(0, 4), 0);
        due.is("17: a chart all the same", x.note(0, 0, 1), Due.BEYOND);
    }

    private static void note() {
        x = new ReelBarn();
        due.is("18: vacant ahead of beyond", x.note(-1, -1, 1), Due.VACANT);
        x.chart(3, 2);
        due.is("18: note", x.note(2, 1, 7), 7);
        due.is("18: more", x.note(2, 1, 8), 15);
        due.is("18: less", x.note(2, 1, -20), -5);
        due.is("18: its neighbours", x.note(2, 0, 0) + x.note(1, 1, 0), 0);
        due.is("18: MAX", x.note(0, 0, MAX), MAX);
        due.is("18: wraps up", x.note(0, 0, 1), MIN);
        due.is("18: wraps down", x.note(0, 0, -1), MAX);
        due.is("18: row beyond", x.note(3, 0, 1), Due.BEYOND);
        due.is("18: row before", x.note(-1, 0, 1), Due.BEYOND);
        due.is("18: row far before", x.note(MIN, 0, 1), Due.BEYOND);
        due.is("18: place beyond", x.note(0, 2, 1), Due.BEYOND);
        due.is("18: place before", x.note(0, -1, 1), Due.BEYOND);
        due.is("18: place far beyond", x.note(0, MAX, 1), Due.BEYOND);
        due.is("18: as it was", x.note(0, 0, 0), MAX);
    }

    private static void tally() {
        x = new ReelBarn();
        x.mount(4, 0, 1);
        x.size(0, 0);
        x.size(0, 1);
        x.mount(0, 0, 1);
        for (int k = 0; k < 3; k++) {
            x.read(0, 0, 1);
        }
        for (int k = 0; k < 4; k++) {
            x.mount(0, 0, -1);
        }
        for (int k = 0; k < 5; k++) {
            x.mount(0, 0, 41);
        }
        for (int k = 0; k < 6; k++) {
            x.nudge(0, 0, 0, 3, 0);
        }
        x.hang(0, 1, 1);
        x.pin(0, 0, 1);
        for (int k = 0; k < 7; k++) {
            x.spot(0, 0, 0);
        }
        for (int what = 1; what <= 7; what++) {
            due.is("19: tally " + what, x.tally(what), what);
            due.is("19: tally counts none itself, " + what, x.tally(what), what);
        }
        for (int bad : new int[] {0, 8, -1, MIN, MAX}) {
            due.is("19: another what", x.tally(bad), 0);
        }
        due.is("19: another what is not refused", x.tally(1), 1);
        tallyOfEachActAsNone();
        tallyOfEachActAsVacant();
        tallyOfEachActAsBeyond();
    }

    private static void tallyOfEachActAsNone() {
        x = new ReelBarn();
        x.mount(-1, 0, 0);
        x.eject(-1, 0);
        x.share(-1, 0, 0);
        x.size(-1, 0);
        x.read(-1, 0, 0);
        x.write(-1, 0, 0, 0);
        x.nudge(0, 0, 0, -1, 0);
        x.tick(0, LAMPS, 0, true);
        x.blend(0, LAMPS, 0, 0, WAVES, 0, true);
        x.hang(-1, 0, 0);
        x.pin(0, 0, -1);
        x.peel(0, 0, -1);
        x.spot(-1, 0, 0);
        x.paint(-1, 0, 0, 0);
        x.span(-1, 0);
        due.is("19: each act once as NONE", x.tally(1), 15);
        x.chart(13, 0);
        x.hang(0, 0, 13);
        due.is("19: chart and hang as GREAT", x.tally(5), 2);
        x.chart(0, -1);
        x.hang(0, -1, 0);
        due.is("19: chart and hang as NEGATIVE", x.tally(4), 2);
        due.is("19: nothing else", x.tally(2) + x.tally(3) + x.tally(6) + x.tally(7), 0);
    }

    private static void tallyOfEachActAsVacant() {
        x = new ReelBarn();
        x.eject(0, 0);
        x.size(0, 0);
        x.pin(0, 0, 0);
        x.peel(0, 0, 0);
        x.span(0, -1);
        x.span(0, 0);
        due.is("19: as VACANT", x.tally(2), 6);
        reachForPlaces();
        due.is("19: places as VACANT", x.tally(2), 14);
        due.is("19: VACANT alone", x.tally(1) + x.tally(3) + x.tally(7), 0);
    }

    private static void tallyOfEachActAsBeyond() {
        x = new ReelBarn();
        x.mount(0, 0, 9);
        x.hang(0, 9, 9);
        x.chart(9, 9);
        x.pin(0, 9, 0);
        x.peel(0, 9, 0);
        x.span(0, 9);
        due.is("19: as BEYOND", x.tally(3), 3);
        reachForPlaces();
        due.is("19: places as BEYOND", x.tally(3), 11);
        x.spot(0, 9, 0);
        x.paint(0, 9, 0, 1);
        x.note(9, 0, 1);
        x.blend(0, 0, 9, 0, 0, 0, false);
        due.is("19: rows and the other place as BEYOND", x.tally(3), 15);
        due.is("19: BEYOND alone", x.tally(1) + x.tally(2) + x.tally(7), 0);
    }

    /** Eight acts that want a place which even reels and rows of nine places have not. */
    private static void reachForPlaces() {
        x.read(0, 0, 9);
        x.write(0, 0, 9, 1);
        x.nudge(0, 0, 9, 0, 1);
        x.tick(0, 0, 9, true);
        x.blend(0, 0, 0, 0, 0, 9, true);
        x.spot(0, 0, 9);
        x.paint(0, 0, 9, 1);
        x.note(0, 9, 1);
    }

    private static void refusedChangesNothing() {
        x = new ReelBarn();
        x.mount(0, 0, 2);
        x.write(0, 0, 1, 9);
        x.share(0, 4, 0);
        x.share(4, 0, 0);
        x.mount(0, 0, 41);
        x.peel(0, 0, 0);
        x.hang(0, 1, 2);
        x.peel(0, 1, 0);
        x.pin(0, 1, 1);
        due.is("Terms: the reel is still there", x.read(0, 0, 1), 9);
        due.is("Terms: the wall's row is still there", x.span(0, 0), 2);
    }
}
