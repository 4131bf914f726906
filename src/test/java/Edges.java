/** What the tests of edges share: the words of the document, and numbers that are not as told. */
final class Edges {
    static final int UNKNOWN = -1, OUTSIDE = -2, STATE = -3, FULL = -4, NONE = -9;
    static final int LEAST = Integer.MIN_VALUE, MOST = Integer.MAX_VALUE;
    static final boolean[] BOTH = {true, false};

    private Edges() {
    }

    /** The first numbers on both sides that a call does not take, and the least and the greatest there are. */
    static int[] beyond(int least, int most) {
        return new int[] {least - 1, most + 1, LEAST, LEAST + 1, MOST - 1, MOST};
    }

    /** Numbers of places or ditches, of which there are so many, that there are not; 32 and 64 shift like 0. */
    static int[] unknown(int many) {
        return new int[] {-1, many, many + 1, 32, 64, LEAST, LEAST + 1, MOST - 1, MOST};
    }
}
