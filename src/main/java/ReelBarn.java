/**
 * A barn of tapes: decks that carry reels of four sorts, walls whose rows are reels, and a chart.
 *
 * <p>Every act answers a number, or one of the constants below if it was refused; a refused act
 * changes nothing but the tally.
 */
public final class ReelBarn {
    public static final long NONE = 1L << 40;
    public static final long VACANT = 2L << 40;
    public static final long BEYOND = 3L << 40;
    public static final long NEGATIVE = 4L << 40;
    public static final long GREAT = 5L << 40;
    public static final long DIVIDED = 6L << 40;
    public static final long BARE = 7L << 40;

    /** What the fault-finding methods answer where nothing is to be refused. */
    private static final long FINE = 0L;

    private static final int REFUSALS = 7;
    private static final int REFUSAL_SHIFT = 40;

    private static final int LETTERS = 0;
    private static final int WAVES = 1;
    private static final int FADERS = 2;
    private static final int LAMPS = 3;
    private static final int SORTS = 4;

    private static final int DECKS = 4;
    private static final int MOST_PLACES = 40;
    private static final int MOST_ROWS = 12;
    private static final int MOST_COLUMNS = 12;
    private static final int ALL_ROWS = -1;

    private static final int FADER_BOUND = 1000000;
    private static final int FADER_PARTS = 8;

    private static final int SUM = 0;
    private static final int DIFFERENCE = 1;
    private static final int PRODUCT = 2;
    private static final int QUOTIENT = 3;
    private static final int UP = 4;
    private static final int DOWN = 5;
    private static final int XOR = 6;
    private static final int AND = 7;
    private static final int OR = 8;

    private final Reel[] carried;
    private final Wall[] walls;
    private final int[] refusals;
    private int[][] chartRows;

    public ReelBarn() {
        carried = new Reel[DECKS * SORTS];
        walls = new Wall[SORTS];
        refusals = new int[REFUSALS + 1];
        chartRows = null;
    }

    public long mount(int deck, int sort, int n) {
        if (!isDeck(deck) || !isSort(sort)) {
            return refuse(NONE);
        }
        if (n > MOST_PLACES) {
            return refuse(GREAT);
        }
        if (n < 0) {
            return refuse(NEGATIVE);
        }
        carry(deck, sort, newReel(sort, n));
        return n;
    }

    public long eject(int deck, int sort) {
        long fault = reelFault(deck, sort);
        if (fault != FINE) {
            return refuse(fault);
        }
        int places = reelOn(deck, sort).places();
        carry(deck, sort, null);
        return places;
    }

    public long share(int from, int to, int sort) {
        if (!isDeck(from) || !isDeck(to) || !isSort(sort)) {
            return refuse(NONE);
        }
        Reel reel = reelOn(from, sort);
        carry(to, sort, reel);
        return oneIfThere(reel);
    }

    public long size(int deck, int sort) {
        long fault = reelFault(deck, sort);
        if (fault != FINE) {
            return refuse(fault);
        }
        return reelOn(deck, sort).places();
    }

    public long read(int deck, int sort, int i) {
        long fault = placeFault(deck, sort, i);
        if (fault != FINE) {
            return refuse(fault);
        }
        return reelOn(deck, sort).told(i);
    }

    public long write(int deck, int sort, int i, int n) {
        long fault = placeFault(deck, sort, i);
        if (fault != FINE) {
            return refuse(fault);
        }
        Reel reel = reelOn(deck, sort);
        reel.put(i, n);
        return reel.told(i);
    }

    public long nudge(int deck, int sort, int i, int how, int n) {
        if (!knowsHow(sort, how)) {
            return refuse(NONE);
        }
        long fault = placeFault(deck, sort, i);
        if (fault != FINE) {
            return refuse(fault);
        }
        if (how == QUOTIENT && n == 0) {
            return refuse(DIVIDED);
        }
        Reel reel = reelOn(deck, sort);
        reel.change(i, how, n);
        return reel.told(i);
    }

    public long tick(int deck, int sort, int i, boolean ahead) {
        if (sort == LAMPS) {
            return refuse(NONE);
        }
        long fault = placeFault(deck, sort, i);
        if (fault != FINE) {
            return refuse(fault);
        }
        Reel reel = reelOn(deck, sort);
        int before = reel.told(i);
        reel.stepUp(i);
        return ahead ? reel.told(i) : before;
    }

    public long blend(int deck, int sort, int i, int from, int other, int j, boolean less) {
        // The deck's own NONE goes ahead of all that can be wrong with deck from's reel.
        if (!isDeck(deck) || !isSort(sort) || !goTogether(sort, other)) {
            return refuse(NONE);
        }
        long fault = placeFault(from, other, j);
        if (fault == FINE) {
            fault = placeFault(deck, sort, i);
        }
        if (fault != FINE) {
            return refuse(fault);
        }
        Reel target = reelOn(deck, sort);
        Reel source = reelOn(from, other);
        if (sort == FADERS || other == FADERS) {
            blendFloats(target, i, source.level(j), less);
        } else {
            target.change(i, howToBlend(sort, less), source.told(j));
        }
        return target.told(i);
    }

    public long hang(int sort, int rows, int columns) {
        if (!isSort(sort)) {
            return refuse(NONE);
        }
        long fault = gridFault(rows, columns);
        if (fault != FINE) {
            return refuse(fault);
        }
        walls[sort] = newWall(sort, rows, columns);
        return rows;
    }

    public long pin(int sort, int r, int deck) {
        if (!isDeck(deck)) {
            return refuse(NONE);
        }
        long fault = rowFault(sort, r);
        if (fault != FINE) {
            return refuse(fault);
        }
        Reel reel = reelOn(deck, sort);
        walls[sort].rows[r] = reel;
        return oneIfThere(reel);
    }

    public long peel(int sort, int r, int deck) {
        if (!isDeck(deck)) {
            return refuse(NONE);
        }
        long fault = rowFault(sort, r);
        if (fault != FINE) {
            return refuse(fault);
        }
        Reel reel = walls[sort].rows[r];
        carry(deck, sort, reel);
        return oneIfThere(reel);
    }

    public long spot(int sort, int r, int c) {
        long fault = wallPlaceFault(sort, r, c);
        if (fault != FINE) {
            return refuse(fault);
        }
        return walls[sort].rows[r].told(c);
    }

    public long paint(int sort, int r, int c, int n) {
        long fault = wallPlaceFault(sort, r, c);
        if (fault != FINE) {
            return refuse(fault);
        }
        Reel reel = walls[sort].rows[r];
        reel.put(c, n);
        return reel.told(c);
    }

    public long span(int sort, int r) {
        long fault = r == ALL_ROWS ? wallFault(sort) : wallReelFault(sort, r);
        if (fault != FINE) {
            return refuse(fault);
        }
        Wall wall = walls[sort];
        return r == ALL_ROWS ? wall.rows.length : wall.rows[r].places();
    }

    public long chart(int rows, int columns) {
        long fault = gridFault(rows, columns);
        if (fault != FINE) {
            return refuse(fault);
        }
        chartRows = new int[rows][columns];
        return rows;
    }

    public long note(int r, int c, int n) {
        if (chartRows == null) {
            return refuse(VACANT);
        }
        if (r < 0 || r >= chartRows.length) {
            return refuse(BEYOND);
        }
        int[] row = chartRows[r];
        if (c < 0 || c >= row.length) {
            return refuse(BEYOND);
        }
        row[c] += n;
        return row[c];
    }

    public int tally(int what) {
        return what >= 1 && what <= REFUSALS ? refusals[what] : 0;
    }

    /** The one way to refuse, so that no refusal is left out of the tally. */
    private long refuse(long why) {
        refusals[(int) (why >> REFUSAL_SHIFT)]++;
        return why;
    }

    private static boolean isDeck(int deck) {
        return deck >= 0 && deck < DECKS;
    }

    private static boolean isSort(int sort) {
        return sort >= 0 && sort < SORTS;
    }

    private static boolean knowsHow(int sort, int how) {
        if (sort == FADERS) {
            return how == SUM || how == DIFFERENCE;
        }
        if (sort == LAMPS) {
            return how == XOR || how == AND || how == OR;
        }
        return how >= SUM && how <= OR;
    }

    private static boolean goTogether(int sort, int other) {
        return (sort == LAMPS) == (other == LAMPS);
    }

    private static int howToBlend(int sort, boolean less) {
        if (sort == LAMPS) {
            return XOR;
        }
        return less ? DIFFERENCE : SUM;
    }

    private static void blendFloats(Reel target, int i, float by, boolean less) {
        float before = target.level(i);
        target.putLevel(i, less ? before - by : before + by);
    }

    private Reel reelOn(int deck, int sort) {
        return carried[deck * SORTS + sort];
    }

    private void carry(int deck, int sort, Reel reel) {
        carried[deck * SORTS + sort] = reel;
    }

    private static long oneIfThere(Reel reel) {
        return reel == null ? 0 : 1;
    }

    // Each fault method asks in the document's order; where it answers FINE, all that it asked for
    // is there and may be reached without another look.

    private long reelFault(int deck, int sort) {
        if (!isDeck(deck) || !isSort(sort)) {
            return NONE;
        }
        return reelOn(deck, sort) == null ? VACANT : FINE;
    }

    private long placeFault(int deck, int sort, int i) {
        long fault = reelFault(deck, sort);
        if (fault != FINE) {
            return fault;
        }
        return reelOn(deck, sort).has(i) ? FINE : BEYOND;
    }

    private long wallFault(int sort) {
        if (!isSort(sort)) {
            return NONE;
        }
        return walls[sort] == null ? VACANT : FINE;
    }

    private long rowFault(int sort, int r) {
        long fault = wallFault(sort);
        if (fault != FINE) {
            return fault;
        }
        return r >= 0 && r < walls[sort].rows.length ? FINE : BEYOND;
    }

    private long wallReelFault(int sort, int r) {
        long fault = rowFault(sort, r);
        if (fault != FINE) {
            return fault;
        }
        return walls[sort].rows[r] == null ? BARE : FINE;
    }

    private long wallPlaceFault(int sort, int r, int c) {
        long fault = wallReelFault(sort, r);
        if (fault != FINE) {
            return fault;
        }
        return walls[sort].rows[r].has(c) ? FINE : BEYOND;
    }

    private static long gridFault(int rows, int columns) {
        if (rows > MOST_ROWS || columns > MOST_COLUMNS) {
            return GREAT;
        }
        return rows < 0 || columns < 0 ? NEGATIVE : FINE;
    }

    private static Reel newReel(int sort, int n) {
        switch (sort) {
            case LETTERS:
                return new LetterReel(n);
            case WAVES:
                return new WaveReel(n);
            case FADERS:
                return new FaderReel(n);
            default:
                return new LampReel(n);
        }
    }

    private static Wall newWall(int sort, int rows, int columns) {
        Wall wall = new Wall(rows);
        for (int r = 0; r < rows; r++) {
            wall.rows[r] = newReel(sort, columns);
        }
        return wall;
    }

    /** A wall's rows; null stands for a bare one. */
    private static final class Wall {
        final Reel[] rows;

        Wall(int count) {
            rows = new Reel[count];
        }
    }

    /**
     * A row of places of one sort. Its methods take an index that has() has allowed: the acts ask
     * before they reach, as what they must refuse differs.
     */
    private abstract static class Reel {
        abstract int places();

        abstract int told(int i);

        abstract void put(int i, int n);

        final boolean has(int i) {
            return i >= 0 && i < places();
        }

        /** Serves lamps too: for how 6 to 8 the lowest bit of n alone decides the lowest bit put. */
        void change(int i, int how, int n) {
            put(i, reckon(told(i), how, n));
        }

        void stepUp(int i) {
            put(i, told(i) + 1);
        }

        float level(int i) {
            return (float) told(i);
        }

        void putLevel(int i, float level) {
            put(i, (int) level);
        }

        /** The caller has refused a quotient by 0. */
        private static int reckon(int place, int how, int n) {
            switch (how) {
                case SUM:
                    return place + n;
                case DIFFERENCE:
                    return place - n;
                case PRODUCT:
                    return place * n;
                case QUOTIENT:
                    return place / n;
                case UP:
                    return place << (n & 31);
                case DOWN:
                    return place >>> (n & 31);
                case XOR:
                    return place ^ n;
                case AND:
                    return place & n;
                default:
                    return place | n;
            }
        }
    }

    private static final class LetterReel extends Reel {
        private final char[] letters;

        LetterReel(int n) {
            letters = new char[n];
        }

        int places() {
            return letters.length;
        }

        int told(int i) {
            return letters[i];
        }

        void put(int i, int n) {
            letters[i] = (char) n;
        }
    }

    private static final class WaveReel extends Reel {
        private final short[] waves;

        WaveReel(int n) {
            waves = new short[n];
        }

        int places() {
            return waves.length;
        }

        int told(int i) {
            return waves[i];
        }

        void put(int i, int n) {
            waves[i] = (short) n;
        }
    }

    private static final class FaderReel extends Reel {
        private final float[] faders;

        FaderReel(int n) {
            faders = new float[n];
        }

        int places() {
            return faders.length;
        }

        int told(int i) {
            return (int) (faders[i] * FADER_PARTS);
        }

        void put(int i, int n) {
            putLevel(i, levelOf(n));
        }

        /** Only the outcome is bounded, never n's own float: n may reach from bound to bound. */
        void change(int i, int how, int n) {
            float by = levelOf(n);
            putLevel(i, how == DIFFERENCE ? faders[i] - by : faders[i] + by);
        }

        void stepUp(int i) {
            putLevel(i, faders[i] + 1.0f);
        }

        float level(int i) {
            return faders[i];
        }

        void putLevel(int i, float level) {
            faders[i] = bounded(level);
        }

        private static float levelOf(int n) {
            return (float) n / FADER_PARTS;
        }

        private static float bounded(float level) {
            if (level > FADER_BOUND) {
                return FADER_BOUND;
            }
            return level < -FADER_BOUND ? -FADER_BOUND : level;
        }
    }

    private static final class LampReel extends Reel {
        private final boolean[] lamps;

        LampReel(int n) {
            lamps = new boolean[n];
        }

        int places() {
            return lamps.length;
        }

        int told(int i) {
            return lamps[i] ? 1 : 0;
        }

        void put(int i, int n) {
            lamps[i] = (n & 1) == 1;
        }
    }
}
