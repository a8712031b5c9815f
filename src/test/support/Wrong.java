/**
 * Values that are none such: beyond the bounds by one and more, below zero, what would wrap around to a right one as
 * the distance of a shift or in a byte, and the ends of int.
 */
final class Wrong {
    static final int LEAST = Integer.MIN_VALUE, MOST = Integer.MAX_VALUE;
    static final int[] COLOURS = {LEAST, -32, -2, -1, 4, 5, 32, 35, 256, MOST};
    static final int[] SIZES = {LEAST, -4, -3, -1, 0, 1, 2, 5, 6, 7, 14, 35, 36, 259, MOST};
    static final int[] SORTS_OF_THREE = {LEAST, -222, -1, 1, 11, 101, 109, 111, 112, 121, 210, 212, 220, 221, 223, 333,
        1100, 1111, 2110, 2220, 2222, 3333, 65646, MOST};
    static final int[] SORTS_OF_FOUR = {LEAST, -3333, -1, 1, 11, 110, 211, 222, 1099, 1101, 1110, 1112, 2109, 2111,
        2200, 2210, 2212, 2219, 2221, 2223, 3110, 3112, 3211, 3220, 3222, 3321, 3323, 3331, 3332, 3334, 4444, 66636,
        MOST};
    static final int[] DEGREES = {LEAST, -3, -1, 4, 5, 13, 32, 256, MOST};
    static final int[] COLOUR_SETS = {LEAST, -16, -15, -1, 16, 17, 31, 32, 240, 256, 271, MOST};
    static final int[] RING_LENGTHS = {LEAST, -6, -3, -1, 0, 1, 2, 7, 8, 14, 35, 259, MOST};
    static final int[] WAY_LENGTHS = {LEAST, -5, -1, 0, 6, 7, 13, 33, 257, MOST};
    static final int[] PARTS = {LEAST, -2, -1, 2, 3, 32, 256, MOST};
    static final int[] NODES = {LEAST, -33, -32, -31, -3, -2, -1, 14, 15, 16, 31, 32, 33, 45, 64, 256, MOST};

    private Wrong() {
    }

    static int[] sorts(int size) {
        return size == 3 ? SORTS_OF_THREE : SORTS_OF_FOUR;
    }
}
