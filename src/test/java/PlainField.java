/** THE FIELD and THE CODE again, by the document's words and without tables, to check the class against. */
final class PlainField {
    private PlainField() {
    }

    static int times(int a, int b) {
        int product = 0;
        for (int bit = 0; bit < 8; bit++) {
            if ((b >> bit & 1) == 1) {
                product ^= a << bit;
            }
        }
        for (int bit = 14; bit >= 8; bit--) {
            if ((product >> bit & 1) == 1) {
                product ^= 0b1_0001_1101 << (bit - 8);
            }
        }
        return product;
    }

    static int inverse(int a) {
        for (int b = 1; b < 256; b++) {
            if (times(a, b) == 1) {
                return b;
            }
        }
        throw new AssertionError("0 has no inverse");
    }

    static int factor(int j, int i) {
        return inverse((16 + j) ^ i);
    }

    static int[] piece(int[] segment, int k, int j) {
        int length = 60 / k;
        int[] bytes = new int[length];
        for (int i = 0; i < k; i++) {
            int factor = factor(j, i);
            for (int t = 0; t < length; t++) {
                bytes[t] ^= times(factor, segment[i * length + t]);
            }
        }
        return bytes;
    }

    /** Solving by Cramer's rule: the pieces' numbers and bytes stand side by side. */
    static int[] solve(int[] numbers, int[][] pieces) {
        int k = numbers.length;
        int[][] factors = new int[k][k];
        for (int r = 0; r < k; r++) {
            for (int i = 0; i < k; i++) {
                factors[r][i] = factor(numbers[r], i);
            }
        }
        int scale = inverse(determinant(factors));
        int[] segment = new int[60];
        for (int i = 0; i < k; i++) {
            for (int r = 0; r < k; r++) {
                int factor = times(scale, determinant(without(factors, r, i)));
                for (int t = 0; t < 60 / k; t++) {
                    segment[i * (60 / k) + t] ^= times(factor, pieces[r][t]);
                }
            }
        }
        return segment;
    }

    private static int determinant(int[][] matrix) {
        if (matrix.length == 0) {
            return 1;
        }
        int sum = 0;
        for (int c = 0; c < matrix.length; c++) {
            sum ^= times(matrix[0][c], determinant(without(matrix, 0, c)));
        }
        return sum;
    }

    private static int[][] without(int[][] matrix, int row, int column) {
        int[][] rest = new int[matrix.length - 1][matrix.length - 1];
        for (int r = 0; r < rest.length; r++) {
            for (int c = 0; c < rest.length; c++) {
                rest[r][c] = matrix[r < row ? r : r + 1][c < column ? c : c + 1];
            }
        }
        return rest;
    }

    static int answer(int[] piece, int q) {
        int length = piece.length;
        long sum = 0;
        for (int t = 0; t <= length / 2 - 1; t++) {
            sum += (long) (t + 1) * piece[(7 * q + t * (1 + q % (length - 1))) % length];
        }
        return (int) (sum % 65521);
    }
}
