/** What every test needs: compares answers with those that are due, and ends the test. */
final class Due {
    static final long NONE = 1099511627776L;
    static final long VACANT = 2199023255552L;
    static final long BEYOND = 3298534883328L;
    static final long NEGATIVE = 4398046511104L;
    static final long GREAT = 5497558138880L;
    static final long DIVIDED = 6597069766656L;
    static final long BARE = 7696581394432L;

    static final int LETTERS = 0;
    static final int WAVES = 1;
    static final int FADERS = 2;
    static final int LAMPS = 3;

    private int asked = 0;
    private int wrong = 0;

    void is(String call, long got, long want) {
        asked++;
        if (got != want) {
            wrong++;
            System.out.println(call + " answered " + got + ", due is " + want);
        }
    }

    void isTrue(String claim, boolean holds) {
        is(claim, holds ? 1 : 0, 1);
    }

    int wrong() {
        return wrong;
    }

    void end() {
        System.out.println(asked + " answers, " + wrong + " not as due");
        if (wrong != 0) {
            System.exit(1);
        }
    }
}
