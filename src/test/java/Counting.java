/** Rows of numbers, taken one after the other. */
final class Counting {
    private Counting() {
    }

    static boolean isNothing(int[] row) {
        for (int v : row) {
            if (v != 0) {
                return false;
            }
        }
        return true;
    }

    static int power(int base, int exponent) {
        int product = 1;
        for (int k = 0; k < exponent; k++) {
            product *= base;
        }
        return product;
    }

    static void digits(int[] row, int number, int base, int least) {
        int rest = number;
        for (int k = 0; k < row.length; k++) {
            row[k] = least + rest % base;
            rest /= base;
        }
    }
}
