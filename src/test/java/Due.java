/** What every test needs: compares answers with those that are due, and ends the test. */
final class Due {
    static final long NONE = 1099511627776L;
    static final long VACANT = 2199023255552L;
    static final long BEYOND = 3298534883328L;
    static final long NEGATIVE = 4398046511104L;
    static final long GREAT = 5497558138880L;
    static final long DIVIDED = 6597069766656L;
    static final long BARE = 7696581394432L;

    static final int LETTERS = 0;
    static final int WAVES = 1;
    static final int FADERS = 2;
    static final int LAMPS = 3;

    private int asked = 0;
    private int wrong = 0;
    private int sentences = 0;
    private int broken = 0;

    void is(String call, long got, long want) {
        asked++;
        if (got != want) {
            wrong++;
            System.out.println(call + " answered " + got + ", due is " + want);
        }
    }

    void isTrue(String claim, boolean holds) {
        is(claim, holds ? 1 : 0, 1);
    }

    /** One test for one sentence of the document; it is broken too if the test throws or asks nothing. */
    void sentence(String words, Runnable test) {
        int askedBefore = asked;
        int wrongBefore = wrong;
        sentences++;
        try {
            test.run();
        } catch (RuntimeException thrown) {
            wrong++;
            System.out.println("a call threw " + thrown);
        }
        isTrue("the test asks something", asked > askedBefore);
        if (wrong > wrongBefore) {
            broken++;
            System.out.println("BROKEN: " + words);
        }
    }

    int wrong() {
        return wrong;
    }

    void end() {
        if (sentences > 0) {
            System.out.println(sentences + " sentences, " + broken + " broken");
        }
        System.out.println(asked + " answers, " + wrong + " not as due");
        if (wrong != 0) {
            System.exit(1);
        }
    }
}
