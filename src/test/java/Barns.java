import java.util.ArrayList;
import java.util.List;

/** Barns to start from, the acts that a stocked one refuses, and what a barn holds as a text. */
final class Barns {
    private static final int LETTERS = Due.LETTERS;
    private static final int WAVES = Due.WAVES;
    private static final int FADERS = Due.FADERS;
    private static final int LAMPS = Due.LAMPS;

    /** An act with the refusal that a stocked barn must answer. */
    record Refused(String call, Act act, long why) {}

    private Barns() {}

    /**
     * Decks 0 and 1 share a reel of two places, deck 2 has one of three, deck 3 has none. Each sort
     * but WAVES has a wall: row 0 with a reel of its own, row 1 bare, row 2 with deck 0's reel. The
     * chart is of two rows of two.
     */
    static ReelBarn stocked() {
        ReelBarn x = new ReelBarn();
        for (int sort = 0; sort < 4; sort++) {
            x.mount(0, sort, 2);
            x.write(0, sort, 1, 5);
            x.share(0, 1, sort);
            x.mount(2, sort, 3);
            x.write(2, sort, 2, 7);
            if (sort != WAVES) {
                x.hang(sort, 3, 2);
                x.paint(sort, 0, 0, 9);
                x.pin(sort, 1, 3);
                x.pin(sort, 2, 0);
            }
        }
        x.chart(2, 2);
        x.note(1, 0, 11);
        return x;
    }

    /** Every act with every refusal that a stocked barn has for it. */
    static List<Refused> refusedByStocked() {
        List<Refused> all = new ArrayList<>();
        for (int sort = 0; sort < 4; sort++) {
            addRefusedDeckActs(all, sort);
            addRefusedPlaceActs(all, sort);
            addRefusedWallActs(all, sort);
        }
        addRefusedByTheirArguments(all);
        return all;
    }

    private static void addRefusedDeckActs(List<Refused> all, int sort) {
        add(all, "mount no deck", x -> x.mount(4, sort, 1), Due.NONE);
        add(all, "mount 41", x -> x.mount(0, sort, 41), Due.GREAT);
        add(all, "mount -1", x -> x.mount(0, sort, -1), Due.NEGATIVE);
        add(all, "eject no deck", x -> x.eject(-1, sort), Due.NONE);
        add(all, "eject vacant", x -> x.eject(3, sort), Due.VACANT);
        add(all, "share no from", x -> x.share(4, 0, sort), Due.NONE);
        add(all, "share no to", x -> x.share(0, -1, sort), Due.NONE);
        add(all, "size no deck", x -> x.size(4, sort), Due.NONE);
        add(all, "size vacant", x -> x.size(3, sort), Due.VACANT);
    }

    private static void addRefusedPlaceActs(List<Refused> all, int sort) {
        int how = sort == LAMPS ? 6 : 0;
        add(all, "read no deck", x -> x.read(-1, sort, 0), Due.NONE);
        add(all, "read vacant", x -> x.read(3, sort, 0), Due.VACANT);
        add(all, "read beyond", x -> x.read(0, sort, 2), Due.BEYOND);
        add(all, "write no deck", x -> x.write(4, sort, 0, 1), Due.NONE);
        add(all, "write vacant", x -> x.write(3, sort, 0, 1), Due.VACANT);
        add(all, "write beyond", x -> x.write(0, sort, 2, 1), Due.BEYOND);
        add(all, "nudge no deck", x -> x.nudge(4, sort, 0, how, 1), Due.NONE);
        add(all, "nudge no how", x -> x.nudge(0, sort, 0, 9, 1), Due.NONE);
        add(all, "nudge vacant", x -> x.nudge(3, sort, 0, how, 1), Due.VACANT);
        add(all, "nudge beyond", x -> x.nudge(0, sort, -1, how, 1), Due.BEYOND);
        add(all, "blend no deck", x -> x.blend(4, sort, 0, 0, sort, 1, false), Due.NONE);
        add(all, "blend no from", x -> x.blend(0, sort, 0, 4, sort, 1, false), Due.NONE);
        add(all, "blend from vacant", x -> x.blend(0, sort, 0, 3, sort, 1, false), Due.VACANT);
        add(all, "blend from beyond", x -> x.blend(0, sort, 0, 0, sort, 2, false), Due.BEYOND);
        add(all, "blend vacant", x -> x.blend(3, sort, 0, 0, sort, 1, false), Due.VACANT);
        add(all, "blend beyond", x -> x.blend(0, sort, 2, 0, sort, 1, false), Due.BEYOND);
        if (sort == LAMPS) {
            add(all, "tick lamps", x -> x.tick(0, LAMPS, 0, true), Due.NONE);
            return;
        }
        add(all, "tick no deck", x -> x.tick(4, sort, 0, true), Due.NONE);
        add(all, "tick vacant", x -> x.tick(3, sort, 0, true), Due.VACANT);
        add(all, "tick beyond", x -> x.tick(0, sort, 2, false), Due.BEYOND);
        add(all, "blend with lamps", x -> x.blend(0, sort, 0, 0, LAMPS, 1, false), Due.NONE);
        add(all, "blend lamps with others", x -> x.blend(0, LAMPS, 0, 0, sort, 1, true), Due.NONE);
    }

    private static void addRefusedWallActs(List<Refused> all, int sort) {
        add(all, "hang 13 rows", x -> x.hang(sort, 13, 1), Due.GREAT);
        add(all, "hang 13 columns", x -> x.hang(sort, 1, 13), Due.GREAT);
        add(all, "hang -1 rows", x -> x.hang(sort, -1, 1), Due.NEGATIVE);
        add(all, "hang -1 columns", x -> x.hang(sort, 0, -1), Due.NEGATIVE);
        add(all, "pin no deck", x -> x.pin(sort, 0, 4), Due.NONE);
        add(all, "peel no deck", x -> x.peel(sort, 0, -1), Due.NONE);
        long row = sort == WAVES ? Due.VACANT : Due.BEYOND;
        add(all, "pin no row", x -> x.pin(sort, 3, 0), row);
        add(all, "peel no row", x -> x.peel(sort, -1, 0), row);
        add(all, "spot no row", x -> x.spot(sort, 3, 0), row);
        add(all, "paint no row", x -> x.paint(sort, -1, 0, 1), row);
        add(all, "span no row", x -> x.span(sort, 3), row);
        add(all, "spot no place", x -> x.spot(sort, 0, 2), row);
        add(all, "paint no place", x -> x.paint(sort, 2, -1, 1), row);
        long reel = sort == WAVES ? Due.VACANT : Due.BARE;
        add(all, "spot bare", x -> x.spot(sort, 1, 0), reel);
        add(all, "paint bare", x -> x.paint(sort, 1, 0, 1), reel);
        add(all, "span bare", x -> x.span(sort, 1), reel);
    }

    private static void addRefusedByTheirArguments(List<Refused> all) {
        add(all, "mount no sort", x -> x.mount(0, 4, 1), Due.NONE);
        add(all, "eject no sort", x -> x.eject(0, 4), Due.NONE);
        add(all, "share no sort", x -> x.share(0, 3, -1), Due.NONE);
        add(all, "size no sort", x -> x.size(0, -1), Due.NONE);
        add(all, "read no sort", x -> x.read(0, 4, 0), Due.NONE);
        add(all, "write no sort", x -> x.write(0, 4, 0, 1), Due.NONE);
        add(all, "nudge no sort", x -> x.nudge(0, -1, 0, 0, 1), Due.NONE);
        add(all, "tick no sort", x -> x.tick(0, 4, 0, true), Due.NONE);
        add(all, "blend no sort", x -> x.blend(0, 4, 0, 0, LETTERS, 1, false), Due.NONE);
        add(all, "blend no other", x -> x.blend(0, LETTERS, 0, 0, -1, 1, false), Due.NONE);
        add(all, "hang no sort", x -> x.hang(4, 1, 1), Due.NONE);
        add(all, "pin no sort", x -> x.pin(-1, 0, 0), Due.NONE);
        add(all, "peel no sort", x -> x.peel(4, 0, 0), Due.NONE);
        add(all, "spot no sort", x -> x.spot(4, 0, 0), Due.NONE);
        add(all, "paint no sort", x -> x.paint(-1, 0, 0, 1), Due.NONE);
        add(all, "span no sort", x -> x.span(4, -1), Due.NONE);
        add(all, "nudge letters by 0", x -> x.nudge(0, LETTERS, 1, 3, 0), Due.DIVIDED);
        add(all, "nudge waves by 0", x -> x.nudge(0, WAVES, 1, 3, 0), Due.DIVIDED);
        add(all, "nudge faders how 2", x -> x.nudge(0, FADERS, 1, 2, 3), Due.NONE);
        add(all, "nudge lamps how 0", x -> x.nudge(0, LAMPS, 1, 0, 1), Due.NONE);
        add(all, "chart 13 rows", x -> x.chart(13, 1), Due.GREAT);
        add(all, "chart 13 columns", x -> x.chart(1, 13), Due.GREAT);
        add(all, "chart -1 rows", x -> x.chart(-1, 1), Due.NEGATIVE);
        add(all, "chart -1 columns", x -> x.chart(0, -1), Due.NEGATIVE);
        add(all, "note no row", x -> x.note(2, 0, 1), Due.BEYOND);
        add(all, "note no place", x -> x.note(0, -1, 1), Due.BEYOND);
    }

    private static void add(List<Refused> all, String call, Act act, long why) {
        all.add(new Refused(call, act, why));
    }

    /** Who has the same reel as whom shows only once one of them has put something into it. */
    static String pictureWithSharing(ReelBarn x) {
        StringBuilder text = new StringBuilder(picture(x));
        for (int sort = 0; sort < 4; sort++) {
            for (int deck = 0; deck < 4; deck++) {
                x.write(deck, sort, 0, 2 * deck + 1);
            }
            x.paint(sort, 0, 1, 1);
            x.paint(sort, 2, 1, 0);
        }
        return text.append(picture(x)).toString();
    }

    /** All that a barn of small reels, walls and chart holds, by its own answers. */
    private static String picture(ReelBarn x) {
        StringBuilder text = new StringBuilder();
        for (int sort = 0; sort < 4; sort++) {
            for (int deck = 0; deck < 4; deck++) {
                long places = x.size(deck, sort);
                text.append(" size ").append(places);
                for (int i = 0; i < places && places <= 40; i++) {
                    text.append(' ').append(x.read(deck, sort, i));
                }
            }
            long rows = x.span(sort, -1);
            text.append(" rows ").append(rows);
            for (int r = 0; r < rows && rows <= 12; r++) {
                long places = x.span(sort, r);
                text.append(" span ").append(places);
                for (int c = 0; c < places && places <= 40; c++) {
                    text.append(' ').append(x.spot(sort, r, c));
                }
            }
        }
        for (int r = 0; r < 3; r++) {
            for (int c = 0; c < 3; c++) {
                text.append(" note ").append(x.note(r, c, 0));
            }
        }
        return text.toString();
    }
}
