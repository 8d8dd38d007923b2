/** The least and the greatest of the numbers of the BOX, and ints that are beyond bounds. */
final class BoundsOf {
    static final int LEAST = Integer.MIN_VALUE;
    static final int GREATEST = Integer.MAX_VALUE;
    static final int[] LEAST_SET = {1, 0, 0, 1, 0, 0};
    static final int[] GREATEST_SET = {11, 9, 40, 20, 2, 400};

    private BoundsOf() {
    }

    static int[] below(int least) {
        return new int[] {least - 1, least - 2, least - 256, LEAST + 1, LEAST};
    }

    static int[] above(int greatest) {
        return new int[] {greatest + 1, greatest + 2, greatest + 256, GREATEST - 1, GREATEST};
    }

    static int[] outside(int least, int greatest) {
        int[] below = below(least);
        int[] above = above(greatest);
        int[] both = new int[below.length + above.length];
        System.arraycopy(below, 0, both, 0, below.length);
        System.arraycopy(above, 0, both, below.length, above.length);
        return both;
    }
}
