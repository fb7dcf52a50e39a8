/** What tests of several promises take their edges from. */
final class Edges {
    /** Core 1 has block 0 in M with the word 7. */
    static final String SEVEN = "code 1 SET 7; code 1 STORE 0; step 1; step 1; settle;";
    private static final String READ = SEVEN + "code 0 LOAD 0; step 0; settle;";
    private static final String WRITTEN = SEVEN + "code 0 SET 5; code 0 STORE 0; step 0; step 0; settle;";
    private static final String TO_WRITE = "code 0 SET 5; code 0 STORE 0; step 0; step 0;";
    private static final String TO_REPLACE = "code 0 LOAD 1; step 0;";

    static final String[] STATES = {"I", "S", "M", "IS", "IM", "IMA", "SM", "SMA", "MI", "SI", "II"};
    private static final String[] PATHS = {
        SEVEN,
        READ,
        WRITTEN,
        SEVEN + "code 0 LOAD 0; step 0;",
        SEVEN + TO_WRITE,
        SEVEN + "code 2 LOAD 0; step 2; settle;" + TO_WRITE + "deliver 0; deliver 0;",
        READ + TO_WRITE,
        READ + TO_WRITE + "deliver 0; deliver 0;",
        WRITTEN + TO_REPLACE,
        READ + TO_REPLACE,
        READ + TO_REPLACE + "code 1 SWAP 0; step 1; deliver 1; deliver 2;",
    };
    private static final int[] WORDS = {0, 7, 5, 0, 0, 0, 7, 7, 5, 7, 0};
    private static final int[] PLACES = {0, 1, 2, 32, 33, 33, 34, 34, 66, 65, 65};

    private Edges() {
    }

    /** The numbers of no core, of n cores: both ends, and what lies next to the cores. */
    static int[] noCores(int n) {
        return new int[] {Integer.MIN_VALUE, -1, n, 4, 5, Integer.MAX_VALUE};
    }

    static int[] noBlocks() {
        return new int[] {Integer.MIN_VALUE, -1, 4, Integer.MAX_VALUE};
    }

    /** The calls that lead line 0 of core 0 to a state, when there are three cores or more with a line each. */
    static String pathTo(int state) {
        return PATHS[state] + "line 0 0 = " + STATES[state];
    }

    /** What word() answers there. */
    static int wordIn(int state) {
        return WORDS[state];
    }

    /** What place() answers of core 0 there. */
    static int placeIn(int state) {
        return PLACES[state];
    }
}
