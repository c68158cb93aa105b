/** Objects in states that many tests begin with. */
final class Scene {
    private Scene() {
    }

    /** House 0 with contracts of limit 20 with the houses 1 to friends; every disk has 100 blocks. */
    static FriendBackup friends(int friends) {
        FriendBackup x = new FriendBackup();
        x.house(0, 100);
        for (int h = 1; h <= friends; h++) {
            x.house(h, 100);
            x.contract(0, h, Math.min(20, 100 / friends));
        }
        return x;
    }

    /** The same, with a code, one file of this text with tag 0, sealed and pushed. */
    static FriendBackup pushed(int k, int n, int friends, String text) {
        FriendBackup x = friends(friends);
        x.code(k, n);
        write(x, 0, 0, text);
        x.seal(0);
        x.push(0);
        return x;
    }

    static void write(FriendBackup x, int h, int tag, String text) {
        for (int i = 0; i < text.length(); i++) {
            x.write(h, tag, text.charAt(i));
        }
    }

    static void writeBytes(FriendBackup x, int h, int tag, int... bytes) {
        for (int b : bytes) {
            x.write(h, tag, b);
        }
    }

    /** A chunk of four bytes that ends by its sum alone; another one for each i from 0 to 255. */
    static int[] smallChunk(int i) {
        return new int[] {i, 0, 0, (11 - 7 * i % 11) % 11};
    }

    static void writeSmallChunks(FriendBackup x, int h, int tag, int from, int to) {
        for (int i = from; i < to; i++) {
            writeBytes(x, h, tag, smallChunk(i));
        }
    }

    /** Sixteen bytes that no sum ends earlier: for each i from 1 to 10 other ones. */
    static void writeLargeChunk(FriendBackup x, int h, int tag, int i) {
        for (int t = 0; t < 16; t++) {
            x.write(h, tag, i);
        }
    }

    static String restoredText(FriendBackup x, int length) {
        StringBuilder text = new StringBuilder();
        for (int i = 0; i < length; i++) {
            text.append((char) x.restored(i));
        }
        return text.toString();
    }
}
