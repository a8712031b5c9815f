/** What the document lists. */
final class Sorts {
    static final int[] OF_THREE = {0, 110, 211, 222};
    static final int[] OF_FOUR = {0, 1100, 1111, 2110, 2211, 2220, 2222, 3111, 3221, 3322, 3333};

    private Sorts() {
    }

    static int[] of(int size) {
        return size == 3 ? OF_THREE : size == 4 ? OF_FOUR : new int[0];
    }

    static boolean has(int size, int sort) {
        for (int known : of(size)) {
            if (known == sort) {
                return true;
            }
        }
        return false;
    }
}
