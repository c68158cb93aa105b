/** The sentences of the document's section 'Terms', each at its borders; what is refused stands in RefusedTest too. */
final class TermsEdgeTest {
    private static final int NONE = FriendBackup.NONE;

    private TermsEdgeTest() {
    }

    public static void main(String[] args) {
        houses();
        disks();
        blocks();
        limits();
        limitsOfBoth();
        sumOfLimits();
        codeAtFirst();
        field();
        fileBytes();
        longestChunk();
        shortestChunk();
        sums();
        lastChunk();
        risingTags();
        sameChunk();
        forgottenChunk();
        fullSegment();
        segmentAtHand();
        numbers();
        held();
        rest();
        anyPieces();
        Check.end();
    }

    private static void houses() {
        Run run = new Run("HOUSES 0 .. 9").argument("house(-1, 1)").argument("house(10, 1)");
        for (int h = 0; h < 10; h++) {
            run.argument("up(" + h + ", true)").with("house(" + h + ", 1)").due("up(" + h + ", true)", true);
        }
        run.argument("house(-1, 1)").argument("house(10, 1)").state("house(0, 1)").state("house(9, 1)");
    }

    private static void disks() {
        Run least = new Run("a DISK of 1 .. 400 BLOCKS").argument("house(0, 0)").with("house(0, 1)", "house(1, 400)");
        least.idle("contract(0, 1, 2)", false).due("contract(0, 1, 1)", true);
        Run most = new Run("a DISK of 1 .. 400 BLOCKS").argument("house(0, 401)")
                .with("house(0, 400)", "house(9, 399)");
        for (int h = 1; h <= 4; h++) {
            most.with("house(" + h + ", 100)").due("contract(0, " + h + ", 100)", true);
        }
        most.idle("contract(0, 9, 1)", false).due("contract(0, 9, 0)", true).due("contract(0, 4, 99)", true);
        most.due("contract(0, 9, 1)", true).idle("contract(0, 4, 100)", false);
    }

    private static void blocks() {
        Run run = new Run("BLOCKS for pieces of others, one each").with("house(0, 50)", "house(1, 1)", "house(2, 2)");
        run.with("contract(0, 1, 1)", "contract(0, 2, 2)").segmentOf(0, 1).segmentOf(0, 2).segmentOf(0, 3);
        run.due("push(0)", 3).due("count(1, 5)", 1).due("count(2, 5)", 2).due("keeper(0, 0, 0)", 1);
        run.due("keeper(0, 0, 1)", 2).due("keeper(0, 1, 0)", 2).due("keeper(0, 2, 0)", NONE).idle("push(0)", 0);
    }

    private static void limits() {
        Run none = new Run("a LIMIT 0 .. 100 (0: none)").with("house(0, 100)", "house(1, 100)").segmentOf(0, 1);
        none.idle("push(0)", 0).idle("contract(0, 1, 0)", true).argument("contract(0, 1, -1)").idle("push(0)", 0);
        none.argument("contract(0, 1, 101)").due("contract(0, 1, 100)", true).due("push(0)", 1);
        none.idle("contract(0, 1, 0)", false).due("contract(0, 1, 1)", true).segmentOf(0, 2).idle("push(0)", 0);
        none.with("forget(0, 0)").due("contract(1, 0, 0)", true).idle("push(0)", 0);
    }

    private static void limitsOfBoth() {
        Run run = new Run("so many pieces at most each of them keeps for the other")
                .with("house(0, 9)", "house(1, 9)");
        run.with("contract(1, 0, 2)").segmentOf(0, 1).segmentOf(0, 2).segmentOf(0, 3).segmentOf(1, 1).segmentOf(1, 2);
        run.segmentOf(1, 3).due("push(0)", 2).due("push(1)", 2).due("stored(1, 0)", 2).due("stored(0, 1)", 2);
        run.idle("push(0)", 0).idle("push(1)", 0).with("contract(0, 1, 3)").due("push(1)", 1).due("push(0)", 1);
        run.with("contract(0, 1, 4)").idle("push(0)", 0).idle("push(1)", 0);
    }

    private static void sumOfLimits() {
        Run run = new Run("The LIMITS of a house's contracts are in sum no more than its DISK").with("house(0, 10)");
        run.with("house(1, 400)", "house(2, 400)", "house(3, 400)", "contract(0, 1, 4)", "contract(2, 0, 5)");
        run.idle("contract(0, 3, 2)", false).idle("contract(3, 0, 2)", false).due("contract(3, 0, 1)", true);
        run.idle("contract(0, 1, 5)", false).idle("contract(1, 0, 5)", false).idle("contract(0, 1, 4)", true);
        run.due("contract(0, 1, 3)", true).due("contract(0, 3, 2)", true).idle("contract(0, 2, 6)", false);
        run.due("contract(0, 1, 0)", true).due("contract(0, 2, 8)", true).idle("contract(0, 2, 9)", false);
        run.due("contract(1, 2, 100)", true).due("contract(2, 3, 100)", true);
    }

    private static void codeAtFirst() {
        Run run = new Run("2 and 4 at first").with("house(0, 9)", "house(1, 9)", "contract(0, 1, 9)").segmentOf(0, 1);
        run.due("keeper(0, 0, 3)", NONE).argument("keeper(0, 0, 4)").argument("harm(1, 0, 0, 30, 1)").with("push(0)");
        run.due("harm(1, 0, 0, 29, 1)", true);
        Run two = new Run("2 at first: K pieces are enough").with("house(0, 18)", "house(1, 9)", "house(2, 9)");
        two.with("contract(0, 1, 9)").segmentOf(0, 77).with("push(0)").idle("restore(0, 0, 8)", NONE);
        two.with("contract(0, 2, 9)", "push(0)").due("restore(0, 0, 8)", 1).due("restored(0)", 77);
    }

    /** What one harmed byte does to both rows: the inverse's numbers were reckoned beside, 221 and 208. */
    private static void field() {
        Run run = new Run("modulo x^8 + x^4 + x^3 + x^2 + 1").with("code(2, 2)", "house(0, 18)", "house(1, 9)");
        run.with("house(2, 9)", "contract(0, 1, 9)", "contract(0, 2, 9)").equalBytes(0, 0, 1, 31)
                .with("seal(0)", "push(0)");
        int[][] solved = {{1, 1, 221, 208}, {1, 128, 178, 124}, {1, 255, 151, 24}, {2, 1, 208, 221}, {2, 255, 24, 151}};
        for (int[] s : solved) {
            String harm = "harm(" + s[0] + ", 0, 0, 0, " + s[1] + ")";
            run.with(harm).due("restore(0, 0, 0)", 31).due("restored(0)", 1 ^ s[2]).due("restored(30)", 1 ^ s[3]);
            run.due("restored(1)", 1).due("restored(29)", 1).with(harm);
        }
    }

    private static void fileBytes() {
        Run run = new Run("FILES have TAGS 0 .. 9 and 0 .. 200 bytes")
                .with("house(0, 18)", "house(1, 9)", "house(2, 9)");
        run.with("contract(0, 1, 9)", "contract(0, 2, 9)", "file(0, 0, true)").argument("file(0, -1, true)");
        run.argument("file(0, 10, true)").equalBytes(0, 9, 255, 199).due("write(0, 9, 0)", 200)
                .state("write(0, 9, 0)");
        run.due("seal(0)", 0).with("push(0)").due("restore(0, 0, 0)", 0).due("restored(0)", NONE);
        run.due("restore(0, 0, 9)", 200).due("restored(0)", 255).due("restored(198)", 255).due("restored(199)", 0);
        run.due("restored(200)", NONE);
    }

    private static void chunksDue(String sentence, int want, int... bytes) {
        new Run(sentence).with("house(0, 9)").bytes(0, 0, bytes).with("seal(0)").due("count(0, 4)", want);
    }

    private static void longestChunk() {
        String sentence = "a chunk ends behind a byte if it has 16 bytes then";
        int[] dueBytes = {15, 1, 16, 1, 17, 2, 31, 2, 32, 1, 33, 2, 48, 1, 200, 2};
        for (int i = 0; i < dueBytes.length; i += 2) {
            Run run = new Run(sentence + ", of " + dueBytes[i]).with("house(0, 9)").equalBytes(0, 0, 1, dueBytes[i]);
            run.with("seal(0)").due("count(0, 4)", dueBytes[i + 1]);
        }
        Run cut = new Run(sentence + ", of 17: the rest is 1").with("house(0, 9)").equalBytes(0, 0, 1, 17)
                .bytes(0, 1, 1);
        cut.with("seal(0)").due("count(0, 4)", 2).equalBytes(0, 2, 1, 16).with("seal(0)").due("count(0, 4)", 2);
        cut.equalBytes(0, 3, 1, 15).with("seal(0)").due("count(0, 4)", 3);
        chunksDue("a sum at 15 ends it before", 2, 1, 1, 1, 1, 1, 1, 1, 1, 1, 1, 1, 1, 1, 1, 7, 1);
        chunksDue("a sum at 16 ends it once", 1, 1, 1, 1, 1, 1, 1, 1, 1, 1, 1, 1, 1, 1, 1, 1, 7);
    }

    private static void shortestChunk() {
        String sentence = "or at least 4 and b + 3 c + 5 d + 7 e is a multiple of 11";
        chunksDue(sentence + ", 1 byte", 1, 0);
        chunksDue(sentence + ", 1 byte of 11 and another", 1, 11, 1);
        chunksDue(sentence + ", 2 bytes", 1, 0, 0, 1);
        chunksDue(sentence + ", 3 bytes", 1, 0, 0, 0, 1);
        chunksDue(sentence + ", 4 bytes", 2, 0, 0, 0, 0, 1);
        chunksDue(sentence + ", 5 bytes", 2, 1, 0, 0, 0, 0, 1);
        chunksDue(sentence + ", 4 bytes of the second chunk", 3, 1, 0, 0, 4, 2, 0, 0, 8, 1);
        chunksDue(sentence + ", not 3 of the second with one of the first", 2, 1, 0, 0, 4, 0, 0, 5, 1);
    }

    private static void sums() {
        String sentence = "b + 3 c + 5 d + 7 e is a multiple of 11";
        chunksDue(sentence + ": 0", 2, 0, 0, 0, 0, 9);
        chunksDue(sentence + ": not 10", 1, 0, 0, 0, 10, 9);
        chunksDue(sentence + ": 11", 2, 0, 0, 0, 11, 9);
        chunksDue(sentence + ": not 12", 1, 0, 0, 0, 12, 9);
        chunksDue(sentence + ": 253", 2, 0, 0, 0, 253, 9);
        chunksDue(sentence + ": 3 c", 2, 0, 0, 11, 0, 9);
        chunksDue(sentence + ": 5 d", 2, 0, 11, 0, 0, 9);
        chunksDue(sentence + ": 7 e", 2, 11, 0, 0, 0, 9);
        chunksDue(sentence + ": 1 + 3 + 7", 2, 1, 0, 1, 1, 9);
        chunksDue(sentence + ": not 1 + 3 + 5", 1, 0, 1, 1, 1, 9);
        chunksDue(sentence + ": 4070, the largest", 2, 255, 255, 255, 245, 9);
        chunksDue(sentence + ": not 4080", 1, 255, 255, 255, 255, 9);
        chunksDue(sentence + ": no byte before these four", 1, 11, 0, 0, 1, 9);
    }

    private static void lastChunk() {
        String sentence = "or at the file's end";
        chunksDue(sentence + ", no bytes", 0);
        chunksDue(sentence + ", a sum there", 1, 0, 0, 0, 0);
        Run run = new Run(sentence + ", not over two files").with("house(0, 9)").bytes(0, 0, 1, 0).bytes(0, 1, 0, 4);
        run.with("seal(0)").due("count(0, 4)", 2).bytes(0, 2, 1, 0, 0, 4).with("seal(0)").due("count(0, 4)", 3);
    }

    private static Run twoPieces(String sentence) {
        Run run = new Run(sentence).with("code(2, 2)", "house(0, 40)", "house(1, 20)", "house(2, 20)");
        return run.with("contract(0, 1, 20)", "contract(0, 2, 20)");
    }

    private static void risingTags() {
        Run run = twoPieces("its files, by rising TAGS").smallChunks(0, 9, 0, 15).smallChunks(0, 0, 20, 21)
                .with("seal(0)");
        run.due("count(0, 0)", 2).due("push(0)", 4).due("harm(1, 0, 1, 0, 0)", true).due("restore(0, 0, 0)", 4);
        run.due("restored(0)", 20).idle("restore(0, 0, 9)", NONE);
    }

    private static void sameChunk() {
        Run run = twoPieces("A chunk with the same bytes as one that this snapshot has is that one")
                .bytes(0, 0, 5, 6);
        run.bytes(0, 1, 5, 6).bytes(0, 2, 5).bytes(0, 3, 5, 6, 0).bytes(0, 4, 6, 5).bytes(0, 5, 5, 7).with("seal(0)");
        run.due("count(0, 4)", 5).due("count(0, 0)", 1).with("push(0)");
        int[] length = {2, 2, 1, 3, 2, 2};
        for (int tag = 0; tag < 6; tag++) {
            run.due("restore(0, 0, " + tag + ")", length[tag]).due("restored(0)", tag == 4 ? 6 : 5);
        }
        Run other = new Run("that some snapshot of the house has").with("house(0, 9)", "house(1, 9)")
                .bytes(0, 0, 5, 6);
        other.with("seal(0)", "file(0, 0, false)", "seal(0)").bytes(0, 7, 5, 6).with("seal(0)").due("count(0, 0)", 1);
        other.due("count(0, 4)", 1).bytes(1, 0, 5, 6).with("seal(1)").due("count(1, 0)", 1).due("count(1, 4)", 1);
        other.due("forget(0, 0)", 0).due("forget(0, 2)", 1).due("count(1, 1)", 1);
        Run first = new Run("that the first of 6 snapshots has").with("house(0, 9)").bytes(0, 0, 5, 6).with("seal(0)");
        first.with("file(0, 0, false)", "seal(0)", "seal(0)", "seal(0)", "seal(0)").bytes(0, 3, 5, 6);
        first.due("seal(0)", 5).due("count(0, 0)", 1).due("count(0, 4)", 1).due("forget(0, 0)", 0);
    }

    private static void forgottenChunk() {
        Run run = new Run("(not forgotten, or this one)").with("house(0, 9)").bytes(0, 0, 5, 6).bytes(0, 1, 7)
                .with("seal(0)");
        run.due("forget(0, 0)", 1).with("seal(0)").due("count(0, 0)", 2).due("count(0, 1)", 1).with("seal(0)");
        run.due("forget(0, 1)", 0).with("seal(0)").due("count(0, 0)", 2).due("count(0, 4)", 2);
        run.with("file(0, 1, false)", "seal(0)").due("forget(0, 2)", 0).due("forget(0, 3)", 0).due("count(0, 4)", 1);
        run.bytes(0, 1, 7).with("seal(0)").due("count(0, 0)", 3).due("count(0, 4)", 2).due("forget(0, 5)", 1);
    }

    private static void fullSegment() {
        String sentence = "if it does not fit there (a segment has 60 bytes), a new segment is";
        Run small = new Run(sentence).with("house(0, 9)").smallChunks(0, 0, 0, 15).with("seal(0)")
                .due("count(0, 0)", 1);
        small.due("forget(0, 0)", 1).bytes(0, 1, 9).with("seal(0)").due("count(0, 0)", 3);
        for (int last = 11; last <= 13; last++) {
            Run run = new Run(sentence + ", 48 and " + last).with("house(0, 9)").equalBytes(0, 0, 1, 16);
            run.equalBytes(0, 1, 2, 16).equalBytes(0, 2, 3, 16).equalBytes(0, 3, 4, last).with("seal(0)");
            run.due("count(0, 0)", last == 13 ? 2 : 1).bytes(0, 4, 9).with("forget(0, 0)", "seal(0)");
            run.due("count(0, 1)", last == 11 ? 1 : 2);
        }
        Run behind = twoPieces("into the SEGMENT at hand, not into one before").equalBytes(0, 0, 1, 16);
        behind.equalBytes(0, 1, 2, 16).equalBytes(0, 2, 3, 16).equalBytes(0, 3, 4, 16).equalBytes(0, 4, 5, 12);
        behind.with("seal(0)").due("count(0, 0)", 2).with("push(0)", "harm(1, 0, 0, 0, 0)")
                .due("restore(0, 0, 4)", 12);
        behind.idle("restore(0, 0, 2)", NONE).due("restore(0, 0, 3)", 16);
    }

    private static void segmentAtHand() {
        Run run = new Run("or there is none at hand; behind a sealing none is at hand").with("house(0, 9)")
                .due("seal(0)", 0);
        run.due("count(0, 0)", 0).bytes(0, 0, 1).with("seal(0)").due("count(0, 0)", 1).bytes(0, 1, 2).with("seal(0)");
        run.due("count(0, 0)", 2).with("seal(0)").due("count(0, 0)", 2).with("file(0, 2, true)", "seal(0)");
        run.due("count(0, 0)", 2).due("count(0, 2)", 2);
    }

    private static void numbers() {
        Run run = new Run("numbered from 0 on for each house").with("house(0, 9)", "house(1, 9)", "house(2, 9)");
        run.with("contract(1, 2, 9)").segmentOf(0, 1).segmentOf(0, 2).bytes(1, 0, 3).due("seal(1)", 0)
                .with("push(1)");
        run.due("keeper(1, 0, 0)", 2).argument("keeper(1, 1, 0)").due("keeper(0, 1, 0)", NONE).due("forget(0, 1)", 1);
        run.due("seal(0)", 2).argument("keeper(0, 1, 0)").due("keeper(0, 2, 0)", NONE).argument("keeper(0, 3, 0)");
    }

    private static void held() {
        Run run = new Run("Its segments are HELD by the house").with("house(0, 9)", "seal(0)").due("count(0, 2)", 0);
        run.segmentOf(0, 1).due("count(0, 2)", 1).segmentOf(0, 2).due("count(0, 2)", 2).with("loseDisk(0)");
        run.due("count(0, 2)", 0).with("recover(0)").segmentOf(0, 3).due("count(0, 2)", 1);
        Run old = new Run("HELD: not those of a sealing before").with("house(0, 9)").segmentOf(0, 1);
        old.with("loseDisk(0)", "recover(0)").segmentOf(0, 1).due("count(0, 0)", 1).due("count(0, 2)", 0);
    }

    /**
     * A byte that is 255 in the first piece, and one of the rest: if that is 0, taking t + 1 from the first and giving
     * 1 to the other leaves the answer as it is.
     */
    private static void rest() {
        int b = PlainField.times(255, 16);
        for (int t = 1; t < 15; t++) {
            Run first = twoPieces("their rest is 0").bytes(0, 0, b).with("seal(0)", "push(0)");
            first.with("harm(1, 0, 0, 0, " + (t + 1) + ")", "harm(1, 0, 0, " + t + ", 1)");
            first.due("sample(0, 0, 0)", FriendBackup.MATCH).due("health(0, 0)", 1);
        }
        for (int t = 1; t < 12; t++) {
            Run second = twoPieces("their rest is 0").bytes(0, 0, 1, 2, 3, 4, 5, 6, 9, b).with("seal(0)", "push(0)");
            second.with("harm(1, 0, 0, 7, " + (t + 1) + ")", "harm(1, 0, 0, " + (7 + 2 * t) + ", 1)");
            second.with("sample(0, 0, 0)").due("sample(0, 0, 0)", FriendBackup.MATCH);
        }
    }

    private static void anyPieces() {
        int[] bytes = new int[60];
        for (int i = 0; i < 60; i++) {
            bytes[i] = (i * i * 29 + i * 5 + 250) % 256;
        }
        for (int k = 2; k <= 6; k++) {
            for (int set = 0; set < 512; set++) {
                if (Integer.bitCount(set) == k || Integer.bitCount(set) == k - 1) {
                    restoreBy(k, set, bytes);
                }
            }
        }
    }

    /** The houses of the set are UP, one piece with each. */
    private static void restoreBy(int k, int set, int[] bytes) {
        FriendBackup x = new FriendBackup();
        x.code(k, 9);
        x.house(0, 90);
        for (int h = 1; h <= 9; h++) {
            x.house(h, 10);
            x.contract(0, h, 10);
        }
        Scene.writeBytes(x, 0, 0, bytes);
        x.seal(0);
        x.push(0);
        for (int h = 1; h <= 9; h++) {
            x.up(h, (set >> (h - 1) & 1) == 1);
        }
        String what = "Any K pieces of a segment determine it: K " + k + ", pieces " + Integer.toBinaryString(set);
        boolean enough = Integer.bitCount(set) == k;
        Check.due(what, x.restore(0, 0, 0), enough ? 60 : NONE);
        for (int i = 0; i < 60; i++) {
            Check.due(what + ", byte " + i, x.restored(i), enough ? bytes[i] : NONE);
        }
    }
}
