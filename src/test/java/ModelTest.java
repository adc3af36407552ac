import java.util.Arrays;
import java.util.Random;

/**
 * Long runs of calls, drawn from a fixed seed with many wrong arguments among them, are compared
 * with a second reckoning of the document that holds its numbers in another way.
 */
public final class ModelTest {
    private static final int RUNS = 2000;
    private static final int CALLS = 512;
    private static final int MOST_TOLD = 40;
    private static final int[] FAR = {
        Integer.MIN_VALUE, Integer.MIN_VALUE + 1, -65536, -32769, -32768, -8000001, 32767, 32768,
        65535, 65536, 8000000, 8000001, 16000000, Integer.MAX_VALUE - 1, Integer.MAX_VALUE,
    };

    private static final Due due = new Due();
    private static final Random random = new Random(20261116L);
    private static final int[] answeredBy = new int[8];

    /** The size drawn last, so that both sides of a comparison get the same. */
    private static int drawn;

    public static void main(String[] args) {
        for (int run = 0; run < RUNS && due.wrong() < MOST_TOLD; run++) {
            oneRun(run);
        }
        for (int what = 0; what < answeredBy.length; what++) {
            due.isTrue("answers of kind " + what + " were met", answeredBy[what] > 100);
        }
        System.out.println("numbers and refusals 1 to 7: " + Arrays.toString(answeredBy));
        due.end();
    }

    private static void oneRun(int run) {
        ReelBarn barn = new ReelBarn();
        Model model = new Model();
        for (int call = 0; call < CALLS && due.wrong() < MOST_TOLD; call++) {
            oneCall("run " + run + ", call " + call + ": ", barn, model);
        }
    }

    private static void oneCall(String where, ReelBarn x, Model m) {
        int a = few(4);
        int b = few(4);
        int i = few(6);
        int d = few(4);
        int s = few(4);
        int j = few(6);
        int how = few(9);
        int n = number();
        boolean flag = random.nextBoolean();
        switch (random.nextInt(22)) {
            case 0, 1 -> same(where + "mount", x.mount(a, b, sizeUpTo(40)), m.mount(a, b, drawn));
            case 2 -> same(where + "eject", x.eject(a, b), m.eject(a, b));
            case 3 -> same(where + "share", x.share(a, d, b), m.share(a, d, b));
            case 4 -> same(where + "size", x.size(a, b), m.size(a, b));
            case 5 -> same(where + "read", x.read(a, b, i), m.read(a, b, i));
            case 6, 7 -> same(where + "write", x.write(a, b, i, n), m.write(a, b, i, n));
            case 8, 9 -> same(where + "nudge", x.nudge(a, b, i, how, n), m.nudge(a, b, i, how, n));
            case 10 -> same(where + "tick", x.tick(a, b, i, flag), m.tick(a, b, i, flag));
            case 11, 12 -> same(where + "blend", x.blend(a, b, i, d, s, j, flag),
                m.blend(a, b, i, d, s, j, flag));
            case 13 -> same(where + "hang", x.hang(b, sizeUpTo(12), i), m.hang(b, drawn, i));
            case 14 -> same(where + "pin", x.pin(b, i, a), m.pin(b, i, a));
            case 15 -> same(where + "peel", x.peel(b, i, a), m.peel(b, i, a));
            case 16 -> same(where + "spot", x.spot(b, i, j), m.spot(b, i, j));
            case 17 -> same(where + "paint", x.paint(b, i, j, n), m.paint(b, i, j, n));
            case 18 -> same(where + "span", x.span(b, i), m.span(b, i));
            case 19 -> same(where + "chart", x.chart(sizeUpTo(12), j), m.chart(drawn, j));
            case 20 -> same(where + "note", x.note(i, j, n), m.note(i, j, n));
            default -> same(where + "tally", x.tally(how), m.tally(how));
        }
    }

    private static void same(String call, long got, long want) {
        due.is(call, got, want);
        answeredBy[want >= Due.NONE ? (int) (want >> 40) : 0]++;
    }

    private static int sizeUpTo(int most) {
        drawn = random.nextInt(8) == 0 ? most - 1 + random.nextInt(3) : few(most);
        return drawn;
    }

    /** Mostly 0 .. bound - 1, at times what lies just outside or far off. */
    private static int few(int bound) {
        int luck = random.nextInt(60);
        if (luck == 0) {
            return FAR[random.nextInt(FAR.length)];
        }
        return luck < 3 ? (random.nextBoolean() ? -1 - random.nextInt(2) : bound + random.nextInt(2))
            : random.nextInt(bound);
    }

    private static int number() {
        switch (random.nextInt(5)) {
            case 0:
                return random.nextInt();
            case 1:
                return FAR[random.nextInt(FAR.length)];
            case 2:
                return random.nextInt(16000000) - 8000000;
            case 3:
                return 0;
            default:
                return random.nextInt(41) - 20;
        }
    }

    /** The document reckoned in longs, a FADER as its eighths, with bounds by Math.floorMod. */
    private static final class Model {
        private final long[][][] decks = new long[4][4][];
        private final long[][][] walls = new long[4][][];
        private final int[] tallies = new int[8];
        private long[][] chart;

        private long no(long why) {
            tallies[(int) (why / Due.NONE)]++;
            return why;
        }

        private static boolean outside(int k, int count) {
            return Integer.compareUnsigned(k, count) >= 0;
        }

        private static boolean unnamed(int deck, int sort) {
            return outside(deck, 4) || outside(sort, 4);
        }

        /** A FADER's n is its float first, which only the far ones tell from the int itself. */
        private static long eighths(int n) {
            return (long) (double) (float) n;
        }

        private static long fit(int sort, long value) {
            return switch (sort) {
                case Due.LETTERS -> Math.floorMod(value, 65536L);
                case Due.WAVES -> Math.floorMod(value + 32768L, 65536L) - 32768L;
                case Due.FADERS -> Math.max(-8000000L, Math.min(8000000L, value));
                default -> Math.floorMod(value, 2L);
            };
        }

        private static long fitInt(int sort, int n) {
            return fit(sort, sort == Due.FADERS ? eighths(n) : n);
        }

        long mount(int deck, int sort, int n) {
            if (unnamed(deck, sort)) return no(Due.NONE);
            if (n > 40) return no(Due.GREAT);
            if (n < 0) return no(Due.NEGATIVE);
            decks[deck][sort] = new long[n];
            return n;
        }

        long eject(int deck, int sort) {
            long answer = size(deck, sort);
            if (answer < Due.NONE) decks[deck][sort] = null;
            return answer;
        }

        long share(int from, int to, int sort) {
            if (unnamed(from, sort) || outside(to, 4)) return no(Due.NONE);
            decks[to][sort] = decks[from][sort];
            return decks[to][sort] == null ? 0 : 1;
        }

        long size(int deck, int sort) {
            if (unnamed(deck, sort)) return no(Due.NONE);
            if (decks[deck][sort] == null) return no(Due.VACANT);
            return decks[deck][sort].length;
        }

        long read(int deck, int sort, int i) {
            if (unnamed(deck, sort)) return no(Due.NONE);
            long[] reel = decks[deck][sort];
            if (reel == null) return no(Due.VACANT);
            if (outside(i, reel.length)) return no(Due.BEYOND);
            return reel[i];
        }

        long write(int deck, int sort, int i, int n) {
            long answer = read(deck, sort, i);
            return answer >= Due.NONE ? answer : (decks[deck][sort][i] = fitInt(sort, n));
        }

        long nudge(int deck, int sort, int i, int how, int n) {
            int first = sort == Due.LAMPS ? 6 : 0;
            int last = sort == Due.FADERS ? 1 : 8;
            if (how < first || how > last) return no(Due.NONE);
            long place = read(deck, sort, i);
            if (place >= Due.NONE) return place;
            if (how == 3 && n == 0) return no(Due.DIVIDED);
            long by = sort == Due.FADERS ? eighths(n) : n;
            return decks[deck][sort][i] = fit(sort, reckon(place, how, by));
        }

        private static long reckon(long place, int how, long by) {
            int places = (int) Math.floorMod(by, 32L);
            return switch (how) {
                case 0 -> place + by;
                case 1 -> place - by;
                case 2 -> place * by;
                case 3 -> place / by;
                case 4 -> place * (1L << places);
                case 5 -> Math.floorMod(place, 1L << 32) / (1L << places);
                case 6 -> (place | by) - (place & by);
                case 7 -> place + by - (place | by);
                default -> place + by - (place & by);
            };
        }

        long tick(int deck, int sort, int i, boolean ahead) {
            if (sort == Due.LAMPS) return no(Due.NONE);
            long place = read(deck, sort, i);
            if (place >= Due.NONE) return place;
            long after = fit(sort, place + (sort == Due.FADERS ? 8 : 1));
            decks[deck][sort][i] = after;
            return ahead ? after : place;
        }

        long blend(int deck, int sort, int i, int from, int other, int j, boolean less) {
            if (unnamed(deck, sort) || unnamed(from, other)) return no(Due.NONE);
            if (sort != other && (sort == Due.LAMPS || other == Due.LAMPS)) return no(Due.NONE);
            long by = read(from, other, j);
            if (by >= Due.NONE) return by;
            long place = read(deck, sort, i);
            if (place >= Due.NONE) return place;
            boolean floats = sort == Due.FADERS || other == Due.FADERS;
            // Within the bounds every eighth is a float, so sums of eighths need no rounding.
            long placeParts = floats && sort != Due.FADERS ? place * 8 : place;
            long byParts = floats && other != Due.FADERS ? by * 8 : by;
            long sum = less ? placeParts - byParts : placeParts + byParts;
            return decks[deck][sort][i] = fit(sort, floats && sort != Due.FADERS ? sum / 8 : sum);
        }

        private long unfit(int rows, int columns) {
            if (Math.max(rows, columns) > 12) return no(Due.GREAT);
            return Math.min(rows, columns) < 0 ? no(Due.NEGATIVE) : 0;
        }

        long hang(int sort, int rows, int columns) {
            if (outside(sort, 4)) return no(Due.NONE);
            long answer = unfit(rows, columns);
            if (answer != 0) return answer;
            walls[sort] = new long[rows][columns];
            return rows;
        }

        private long row(int sort, int r) {
            if (outside(sort, 4)) return no(Due.NONE);
            if (walls[sort] == null) return no(Due.VACANT);
            return outside(r, walls[sort].length) ? no(Due.BEYOND) : 0;
        }

        long pin(int sort, int r, int deck) {
            if (unnamed(deck, sort)) return no(Due.NONE);
            long answer = row(sort, r);
            if (answer != 0) return answer;
            walls[sort][r] = decks[deck][sort];
            return walls[sort][r] == null ? 0 : 1;
        }

        long peel(int sort, int r, int deck) {
            if (unnamed(deck, sort)) return no(Due.NONE);
            long answer = row(sort, r);
            if (answer != 0) return answer;
            decks[deck][sort] = walls[sort][r];
            return walls[sort][r] == null ? 0 : 1;
        }

        long spot(int sort, int r, int c) {
            long answer = row(sort, r);
            if (answer != 0) return answer;
            long[] reel = walls[sort][r];
            if (reel == null) return no(Due.BARE);
            return outside(c, reel.length) ? no(Due.BEYOND) : reel[c];
        }

        long paint(int sort, int r, int c, int n) {
            long answer = spot(sort, r, c);
            return answer >= Due.NONE ? answer : (walls[sort][r][c] = fitInt(sort, n));
        }

        long span(int sort, int r) {
            if (r == -1 && !outside(sort, 4) && walls[sort] != null) return walls[sort].length;
            long answer = row(sort, r);
            if (answer != 0) return answer;
            return walls[sort][r] == null ? no(Due.BARE) : walls[sort][r].length;
        }

        long chart(int rows, int columns) {
            long answer = unfit(rows, columns);
            if (answer != 0) return answer;
            chart = new long[rows][columns];
            return rows;
        }

        long note(int r, int c, int n) {
            if (chart == null) return no(Due.VACANT);
            if (outside(r, chart.length) || outside(c, chart[r].length)) return no(Due.BEYOND);
            return chart[r][c] = Math.floorMod(chart[r][c] + n + (1L << 31), 1L << 32) - (1L << 31);
        }

        int tally(int what) {
            return what == 0 || outside(what, 8) ? 0 : tallies[what];
        }
    }
}
