import java.util.Arrays;

/** THE CODE and the QUESTIONS, seen through harmed pieces, against a plain reckoning by the document. */
final class CodeTest {
    private CodeTest() {
    }

    public static void main(String[] args) {
        for (int k = 2; k <= 6; k++) {
            for (int first = 0; first + k <= 9; first++) {
                solvingByHarmed(k, first, first);
                solvingByHarmed(k, first, first + k - 1);
            }
            for (int at = 0; at < 60 / k; at++) {
                questionsOfOneByte(k, at);
            }
            questionsOfTwoBytes(k);
        }
        Check.end();
    }

    /** Sixty bytes, one segment whatever the cuts are. */
    private static int[] someBytes(int seed) {
        int[] bytes = new int[60];
        for (int i = 0; i < 60; i++) {
            bytes[i] = (i * i * 31 + i * 7 + seed * 101 + 3) % 256;
        }
        return bytes;
    }

    private static FriendBackup pushed(int k, int[] bytes) {
        FriendBackup x = new FriendBackup();
        x.code(k, 12);
        x.house(0, 90);
        for (int h = 1; h <= 9; h++) {
            x.house(h, 10);
            x.contract(0, h, 10);
        }
        Scene.writeBytes(x, 0, 3, bytes);
        x.seal(0);
        Check.due("nine pieces are placed", x.push(0), 9);
        return x;
    }

    private static void solvingByHarmed(int k, int first, int harmed) {
        int[] bytes = someBytes(k + first);
        FriendBackup x = pushed(k, bytes);
        for (int j = 0; j < first; j++) {
            x.up(j + 1, false);
        }
        int at = (5 * first + k) % (60 / k);
        x.harm(harmed + 1, 0, 0, at, 0x5A);
        int[] numbers = new int[k];
        int[][] pieces = new int[k][];
        for (int r = 0; r < k; r++) {
            numbers[r] = first + r;
            pieces[r] = PlainField.piece(bytes, k, first + r);
        }
        pieces[harmed - first][at] ^= 0x5A;
        int[] due = PlainField.solve(numbers, pieces);
        Check.due("it differs", Arrays.equals(due, bytes), false);
        Check.due("bytes restored", x.restore(0, 0, 3), 60);
        for (int i = 0; i < 60; i++) {
            String what = "K " + k + ", pieces from " + first + ", harmed " + harmed + ", byte " + i;
            Check.due(what, x.restored(i), due[i]);
        }
    }

    private static void questionsOfOneByte(int k, int at) {
        FriendBackup x = pushed(k, someBytes(at));
        x.harm(2, 0, 0, at, 1);
        int[] piece = PlainField.piece(someBytes(at), k, 1);
        int[] harmed = piece.clone();
        harmed[at] ^= 1;
        for (int q = 0; q < 8; q++) {
            boolean same = PlainField.answer(piece, q) == PlainField.answer(harmed, q);
            Check.due("K " + k + ", place " + at + ", question " + q, x.sample(0, 0, 1),
                    same ? FriendBackup.MATCH : FriendBackup.MISMATCH);
        }
    }

    /** Two harmed bytes that even each other out by their weights, in the first question. */
    private static void questionsOfTwoBytes(int k) {
        int[] piece = PlainField.piece(someBytes(k), k, 0);
        int found = 0;
        for (int second = 1; second < piece.length / 2; second++) {
            int[] masks = evenMasks(piece, second);
            if (masks == null) {
                continue;
            }
            found++;
            FriendBackup x = pushed(k, someBytes(k));
            x.harm(1, 0, 0, 0, masks[0]);
            x.harm(1, 0, 0, second, masks[1]);
            Check.due("K " + k + ", places 0 and " + second, x.sample(0, 0, 0), FriendBackup.MATCH);
            Check.due("K " + k + ", not sound", x.health(0, 0), 8);
        }
        Check.due("K " + k + " has such masks", found > 1, true);
    }

    private static int[] evenMasks(int[] piece, int second) {
        for (int a = 1; a < 256; a++) {
            for (int b = 1; b < 256; b++) {
                int[] harmed = piece.clone();
                harmed[0] ^= a;
                harmed[second] ^= b;
                if (PlainField.answer(harmed, 0) == PlainField.answer(piece, 0)) {
                    return new int[] {a, b};
                }
            }
        }
        return null;
    }
}
