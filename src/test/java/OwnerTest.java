/** Promises 1 to 8: houses, contracts, folders, sealing and pushing. */
final class OwnerTest {
    private OwnerTest() {
    }

    public static void main(String[] args) {
        newObject();
        code();
        house();
        contract();
        contractUnderPieces();
        write();
        file();
        cutting();
        segments();
        manyChunks();
        equalChunks();
        sealLimits();
        sealRefusedChangesNothing();
        sealWrong();
        push();
        pushChoice();
        pushWrong();
        Check.end();
    }

    private static void newObject() {
        FriendBackup x = new FriendBackup();
        for (int h = -1; h <= 10; h++) {
            int none = h;
            Check.badArgument("p1 up of house " + h, () -> x.up(none, true));
            Check.badArgument("p1 count of house " + h, () -> x.count(none, 0));
        }
        Check.due("p1 restored(0)", x.restored(0), FriendBackup.NONE);
        x.settle(0);
        Check.badArgument("p1 settle(-1)", () -> x.settle(-1));
    }

    private static void code() {
        FriendBackup x = Scene.friends(1);
        Check.badArgument("p2 code(1, 4)", () -> x.code(1, 4));
        Check.badArgument("p2 code(7, 9)", () -> x.code(7, 9));
        Check.badArgument("p2 code(3, 2)", () -> x.code(3, 2));
        Check.badArgument("p2 code(2, 13)", () -> x.code(2, 13));
        x.file(0, 0, true);
        x.code(6, 6);
        x.code(2, 12);
        x.code(3, 5);
        x.write(0, 0, 1);
        x.seal(0);
        Check.due("p2 the last piece of N = 5", x.keeper(0, 0, 4), FriendBackup.NONE);
        Check.badArgument("p2 one piece more than N = 5", () -> x.keeper(0, 0, 5));
        Check.badState("p2 code behind a sealing", () -> x.code(3, 5));
        Check.badArgument("p2 a wrong code behind a sealing", () -> x.code(3, 13));
        FriendBackup first = Scene.friends(1);
        first.write(0, 0, 1);
        first.seal(0);
        Check.due("p2 N is 4 at first", first.keeper(0, 0, 3), FriendBackup.NONE);
        Check.badArgument("p2 N is no more than 4 at first", () -> first.keeper(0, 0, 4));
        Check.due("p2 K is 2 at first: the last place", first.harm(1, 0, 0, 29, 1), false);
        Check.badArgument("p2 K is 2 at first: a place more", () -> first.harm(1, 0, 0, 30, 1));
    }

    private static void house() {
        FriendBackup x = new FriendBackup();
        Check.badArgument("p3 house(-1, 5)", () -> x.house(-1, 5));
        Check.badArgument("p3 house(10, 5)", () -> x.house(10, 5));
        Check.badArgument("p3 house(0, 0)", () -> x.house(0, 0));
        Check.badArgument("p3 house(0, 401)", () -> x.house(0, 401));
        x.house(0, 400);
        x.house(9, 1);
        Check.badState("p3 house twice", () -> x.house(0, 400));
        Check.badArgument("p3 house twice with no such disk", () -> x.house(0, 401));
        Check.due("p3 a new house is up", x.up(9, true), true);
        Check.due("p3 a new house is not bare", x.recover(9), true);
        Check.due("p3 a new house has no file", x.file(9, 0, false), false);
        for (int what = 0; what < 6; what++) {
            Check.due("p3 count(9, " + what + ")", x.count(9, what), 0);
        }
        x.write(0, 0, 1);
        x.seal(0);
        Check.due("p3 no contract, no placing", x.push(0), 0);
    }

    private static void contract() {
        FriendBackup x = new FriendBackup();
        x.house(0, 30);
        x.house(1, 20);
        x.house(2, 400);
        Check.badArgument("p4 with itself", () -> x.contract(0, 0, 5));
        Check.badArgument("p4 no such second house", () -> x.contract(0, 3, 5));
        Check.badArgument("p4 no such first house", () -> x.contract(3, 0, 5));
        Check.badArgument("p4 limit -1", () -> x.contract(0, 1, -1));
        Check.badArgument("p4 limit 101", () -> x.contract(0, 2, 101));
        Check.due("p4 over the second's disk", x.contract(0, 1, 21), false);
        Check.due("p4 over the first's disk", x.contract(1, 0, 21), false);
        Check.due("p4 the whole disk", x.contract(0, 1, 20), true);
        Check.due("p4 the same again", x.contract(1, 0, 20), true);
        Check.due("p4 nothing is left of the second's disk", x.contract(1, 2, 1), false);
        Check.due("p4 over the rest", x.contract(2, 0, 11), false);
        Check.due("p4 the rest", x.contract(2, 0, 10), true);
        Check.due("p4 less", x.contract(0, 1, 5), true);
        Check.due("p4 what became free", x.contract(0, 2, 25), true);
        Check.due("p4 none any more", x.contract(0, 2, 0), true);
        Check.due("p4 100 on another disk", x.contract(1, 2, 15), true);
        x.house(3, 400);
        Check.due("p4 the largest limit", x.contract(3, 2, 100), true);
    }

    private static void contractUnderPieces() {
        FriendBackup x = Scene.friends(1);
        Scene.writeSmallChunks(x, 0, 0, 0, 31);
        x.seal(0);
        Check.due("p4 three segments, a piece of each", x.push(0), 3);
        Check.due("p4 fewer than the friend keeps", x.contract(0, 1, 2), false);
        Check.due("p4 fewer, asked by the friend", x.contract(1, 0, 2), false);
        Check.due("p4 as many as the friend keeps", x.contract(1, 0, 3), true);
        x.harm(1, 0, 2, 0, 0);
        Check.due("p4 when one is gone there", x.contract(0, 1, 2), true);
        x.loseDisk(1);
        Check.due("p4 when all are gone there", x.contract(0, 1, 0), true);
    }

    private static void write() {
        FriendBackup x = Scene.friends(1);
        Check.badArgument("p5 no such house", () -> x.write(2, 0, 0));
        Check.badArgument("p5 tag -1", () -> x.write(0, -1, 0));
        Check.badArgument("p5 tag 10", () -> x.write(0, 10, 0));
        Check.badArgument("p5 byte -1", () -> x.write(0, 0, -1));
        Check.badArgument("p5 byte 256", () -> x.write(0, 0, 256));
        for (int i = 1; i <= 200; i++) {
            Check.due("p5 byte " + i, x.write(0, 9, i == 1 ? 255 : 0), i);
        }
        Check.badState("p5 byte 201", () -> x.write(0, 9, 0));
        Check.badArgument("p5 no byte behind 200", () -> x.write(0, 9, 256));
        Check.due("p5 another file", x.write(0, 8, 7), 1);
        Check.due("p5 another house", x.write(1, 9, 7), 1);
        x.loseDisk(1);
        Check.badState("p5 bare", () -> x.write(1, 9, 7));
        Check.badArgument("p5 bare and no tag", () -> x.write(1, 10, 7));
        x.recover(1);
        Check.due("p5 the folder was lost", x.write(1, 9, 7), 1);
        x.up(1, false);
        Check.due("p5 a house that is down", x.write(1, 9, 7), 2);
    }

    private static void file() {
        FriendBackup x = Scene.pushed(2, 4, 4, "abc");
        Check.badArgument("p6 no such house", () -> x.file(5, 0, true));
        Check.badArgument("p6 tag -1", () -> x.file(0, -1, true));
        Check.badArgument("p6 tag 10", () -> x.file(0, 10, true));
        Check.due("p6 a new one", x.file(0, 9, true), false);
        Check.due("p6 it is there", x.file(0, 9, true), true);
        Check.due("p6 one with bytes is there", x.file(0, 0, true), true);
        Check.due("p6 and has none now", x.write(0, 0, 1), 1);
        Check.due("p6 gone", x.file(0, 0, false), true);
        Check.due("p6 was gone", x.file(0, 0, false), false);
        Check.due("p6 anew from its first byte", x.write(0, 0, 1), 1);
        Check.due("p6 its byte", x.file(0, 0, false), true);
        Check.due("p6 the next snapshot", x.seal(0), 1);
        Check.due("p6 has the empty file", x.restore(0, 1, 9), 0);
        Check.badArgument("p6 has not the one gone", () -> x.restore(0, 1, 0));
        Check.due("p6 which the first has", x.restore(0, 0, 0), 3);
        x.loseDisk(0);
        Check.badState("p6 bare", () -> x.file(0, 9, true));
        Check.badArgument("p6 bare and no tag", () -> x.file(0, 10, true));
        x.recover(0);
        Check.due("p6 the folder was lost", x.file(0, 9, true), false);
    }

    private static int chunks(int... bytes) {
        FriendBackup x = Scene.friends(1);
        Scene.writeBytes(x, 0, 0, bytes);
        x.seal(0);
        return x.count(0, 4);
    }

    private static void cutting() {
        Check.due("cut: the byte itself counts once", chunks(0, 0, 0, 11, 9), 2);
        Check.due("cut: the one before three times", chunks(0, 0, 1, 8, 9), 2);
        Check.due("cut: the next five times", chunks(0, 1, 0, 6, 9), 2);
        Check.due("cut: the next seven times", chunks(1, 0, 0, 4, 9), 2);
        Check.due("cut: the other way round is none", chunks(4, 0, 0, 1, 9), 1);
        Check.due("cut: large bytes", chunks(255, 255, 255, 245, 9), 2);
        Check.due("cut: not before four bytes", chunks(0, 0, 11), 1);
        Check.due("cut: at five", chunks(1, 0, 0, 0, 11, 9), 2);
        Check.due("cut: a chunk's own four bytes", chunks(0, 0, 0, 0, 0, 0, 0, 1), 2);
        Check.due("cut: no bytes", chunks(), 0);
        FriendBackup x = Scene.friends(1);
        Scene.writeLargeChunk(x, 0, 0, 1);
        x.seal(0);
        Check.due("cut: sixteen equal bytes", x.count(0, 4), 1);
        x.write(0, 0, 1);
        x.seal(0);
        Check.due("cut: seventeen", x.count(0, 4), 2);
        for (int i = 0; i < 15; i++) {
            x.write(0, 0, 1);
        }
        x.file(0, 1, true);
        x.forget(0, 1);
        x.seal(0);
        Check.due("cut: thirty-two, the second like the first", x.count(0, 4), 1);
    }

    private static void segments() {
        FriendBackup x = Scene.friends(1);
        Scene.writeSmallChunks(x, 0, 0, 0, 15);
        Check.due("p7 the first snapshot", x.seal(0), 0);
        Check.due("p7 sixty bytes are one segment", x.count(0, 0), 1);
        Scene.writeSmallChunks(x, 0, 0, 15, 16);
        Check.due("p7 the second snapshot", x.seal(0), 1);
        Check.due("p7 a chunk more is another", x.count(0, 0), 2);
        Scene.writeSmallChunks(x, 0, 1, 16, 17);
        Check.due("p7 the third snapshot", x.seal(0), 2);
        Check.due("p7 none is at hand behind a sealing", x.count(0, 0), 3);
        Check.due("p7 all are held", x.count(0, 2), 3);
        Check.due("p7 chunks", x.count(0, 4), 17);

        FriendBackup y = Scene.friends(1);
        Scene.writeLargeChunk(y, 0, 0, 1);
        Scene.writeLargeChunk(y, 0, 0, 2);
        Scene.writeLargeChunk(y, 0, 0, 3);
        Scene.writeLargeChunk(y, 0, 1, 4);
        Scene.writeSmallChunks(y, 0, 2, 5, 16);
        y.seal(0);
        Check.due("p7 forty-eight and sixteen are two", y.count(0, 0), 2);
        y.file(0, 0, false);
        y.file(0, 1, false);
        y.seal(0);
        Check.due("p7 the small ones stand in the second alone", y.forget(0, 0), 1);
        Check.due("p7 which has been filled", y.count(0, 1), 1);
    }

    private static void manyChunks() {
        FriendBackup x = Scene.friends(4);
        Scene.writeSmallChunks(x, 0, 0, 0, 50);
        Scene.writeSmallChunks(x, 0, 9, 50, 100);
        Check.due("p7 as many chunks as a run can write", x.seal(0), 0);
        Check.due("p7 fifteen in a segment", x.count(0, 0), 7);
        Check.due("p7 all of them", x.count(0, 4), 100);
        x.push(0);
        Check.due("p16 the file of the last tag", x.restore(0, 0, 9), 200);
        Check.due("p17 its first chunk", x.restored(0), 50);
        Check.due("p17 its last chunk", x.restored(196), 99);
    }

    private static void equalChunks() {
        FriendBackup x = Scene.friends(1);
        Scene.writeSmallChunks(x, 0, 0, 0, 2);
        Scene.writeSmallChunks(x, 0, 1, 0, 2);
        x.seal(0);
        Check.due("p7 equal ones of two files", x.count(0, 4), 2);
        x.file(0, 0, false);
        x.file(0, 1, false);
        Scene.writeSmallChunks(x, 0, 5, 0, 1);
        x.seal(0);
        Check.due("p7 equal ones of two snapshots", x.count(0, 0), 1);
        x.forget(0, 0);
        Check.due("p7 the segment stays for the other", x.count(0, 1), 1);
        Check.due("p7 and one chunk of it", x.count(0, 4), 1);
        Scene.writeSmallChunks(x, 0, 6, 1, 2);
        x.seal(0);
        Check.due("p7 what only a forgotten one had is new", x.count(0, 0), 2);
        Check.due("p7 two chunks again", x.count(0, 4), 2);
        Scene.writeSmallChunks(x, 1, 6, 1, 2);
        x.seal(1);
        Check.due("p7 another house's chunks are its own", x.count(1, 0), 1);
    }

    private static void sealLimits() {
        FriendBackup x = Scene.friends(1);
        for (int i = 0; i < 6; i++) {
            Check.due("p7 snapshot " + i, x.seal(0), i);
        }
        Check.due("p7 a seventh", x.seal(0), FriendBackup.NONE);
        for (int i = 6; i < 30; i++) {
            x.forget(0, i - 1);
            Check.due("p7 snapshot " + i, x.seal(0), i);
        }
        x.forget(0, 0);
        x.forget(0, 29);
        Check.due("p7 a thirty-first", x.seal(0), FriendBackup.NONE);
        Check.due("p7 of another house", x.seal(1), 0);
        Check.badState("p7 empty folders were sealed", () -> x.code(2, 4));
    }

    private static void sealRefusedChangesNothing() {
        FriendBackup x = Scene.friends(1);
        Scene.writeSmallChunks(x, 0, 0, 0, 46);
        for (int i = 0; i < 9; i++) {
            Check.due("p7 four segments each", x.seal(0), i);
            x.forget(0, i);
        }
        Check.due("p7 thirty-six so far", x.count(0, 0), 36);
        Scene.writeSmallChunks(x, 0, 1, 46, 61);
        Check.due("p7 five more are too many", x.seal(0), FriendBackup.NONE);
        Check.due("p7 no snapshot", x.count(0, 3), 0);
        Check.due("p7 no chunks", x.count(0, 4), 0);
        Check.due("p7 no segments", x.count(0, 0), 36);
        x.file(0, 1, false);
        Check.due("p7 four more are not", x.seal(0), 9);
        Check.due("p7 forty ever", x.count(0, 0), 40);
        Check.due("p7 none new is needed", x.seal(0), 10);
        x.write(0, 1, 1);
        Check.due("p7 one new is too many", x.seal(0), FriendBackup.NONE);
        Check.due("p7 held as before", x.count(0, 2), 4);
    }

    private static void sealWrong() {
        FriendBackup x = Scene.friends(1);
        Check.badArgument("p7 no such house", () -> x.seal(2));
        Check.badArgument("p7 house -1", () -> x.seal(-1));
        x.loseDisk(1);
        Check.badState("p7 bare", () -> x.seal(1));
        x.code(2, 5);
        x.up(0, false);
        Check.due("p7 a house that is down", x.seal(0), 0);
    }

    private static void push() {
        FriendBackup x = Scene.friends(5);
        Scene.writeSmallChunks(x, 0, 0, 0, 16);
        x.seal(0);
        Check.due("p8 two segments of four pieces", x.push(0), 8);
        int[] first = {1, 2, 3, 4};
        int[] second = {5, 1, 2, 3};
        for (int j = 0; j < 4; j++) {
            Check.due("p8 piece " + j + " of segment 0", x.keeper(0, 0, j), first[j]);
            Check.due("p8 piece " + j + " of segment 1", x.keeper(0, 1, j), second[j]);
        }
        Check.due("p8 all are placed", x.push(0), 0);
        x.harm(1, 0, 0, 0, 0);
        Check.due("p8 one gone is placed by the book", x.push(0), 0);
        FriendBackup few = Scene.pushed(2, 4, 2, "abc");
        Check.due("p8 no two pieces with one house", few.keeper(0, 0, 2), FriendBackup.NONE);
        Check.due("p8 as many as friends", few.health(0, 0), 2);
        few.house(3, 10);
        few.house(4, 10);
        Check.due("p8 a house without contract", few.push(0), 0);
        few.contract(0, 4, 1);
        Check.due("p8 one with a contract", few.push(0), 1);
        Check.due("p8 is the keeper", few.keeper(0, 0, 2), 4);
        few.harm(4, 0, 0, 0, 0);
        Check.due("p8 a piece there by the book alone", few.push(0), 0);
    }

    private static void pushChoice() {
        FriendBackup x = Scene.friends(4);
        x.house(5, 100);
        x.contract(5, 1, 10);
        x.contract(5, 2, 10);
        x.write(5, 0, 1);
        x.seal(5);
        Check.due("p8 another owner's pieces", x.push(5), 2);
        x.up(3, false);
        x.loseDisk(4);
        x.contract(0, 5, 1);
        x.write(0, 0, 1);
        x.seal(0);
        Check.due("p8 only houses up and not bare", x.push(0), 3);
        Check.due("p8 the one that keeps the fewest", x.keeper(0, 0, 0), 5);
        Check.due("p8 then the least", x.keeper(0, 0, 1), 1);
        Check.due("p8 then the other", x.keeper(0, 0, 2), 2);
        x.recover(4);
        Check.due("p8 when it is bare no more", x.push(0), 1);
        Check.due("p8 it keeps one", x.keeper(0, 0, 3), 4);
        x.write(0, 1, 2);
        x.seal(0);
        Check.due("p8 no room beyond the limit", x.push(0), 3);
        Check.due("p8 limit 1", x.stored(5, 0), 1);
    }

    private static void pushWrong() {
        FriendBackup x = Scene.friends(2);
        x.write(0, 0, 1);
        x.seal(0);
        Check.badArgument("p8 no such house", () -> x.push(3));
        x.up(0, false);
        Check.badState("p8 down", () -> x.push(0));
        x.up(0, true);
        x.loseDisk(0);
        Check.badState("p8 bare", () -> x.push(0));
        x.recover(0);
        Check.due("p8 what is not held is not pushed", x.push(0), 0);
    }
}
