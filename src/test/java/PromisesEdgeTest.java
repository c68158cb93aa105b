/** The promises 1 to 24, each at its borders: nothing there, one, the last that goes, all of it. */
final class PromisesEdgeTest {
    private static final int NONE = FriendBackup.NONE;
    private static final int MISMATCH = FriendBackup.MISMATCH;
    private static final int MATCH = FriendBackup.MATCH;
    private static final int SILENT = FriendBackup.SILENT;

    private PromisesEdgeTest() {
    }

    public static void main(String[] args) {
        newObject();
        code();
        house();
        contract();
        write();
        file();
        seal();
        push();
        up();
        loseDisk();
        harm();
        recover();
        recoverNeverPlaced();
        sample();
        audit();
        repair();
        repairUnplacesFirst();
        repairSolved();
        restore();
        restoreByLeast();
        restored();
        forget();
        health();
        keeper();
        count();
        stored();
        settle();
        balance();
        Check.end();
    }

    /** House 0 and friends of it from 1 on, who keep up to 9 pieces each for it. */
    private static Run friends(String sentence, int friends, int k, int n) {
        Run run = new Run(sentence).with("code(" + k + ", " + n + ")", "house(0, 81)");
        for (int h = 1; h <= friends; h++) {
            run.with("house(" + h + ", 30)", "contract(0, " + h + ", 9)");
        }
        return run;
    }

    private static void newObject() {
        Run run = new Run("p1 No houses; day 0").idle("restored(0)", NONE).idle("restored(-1)", NONE)
                .argument("settle(-1)");
        String[] calls = {
            "write(#, 0, 0)", "file(#, 0, false)", "seal(#)", "push(#)", "up(#, true)", "loseDisk(#)", "recover(#)",
            "harm(#, #, 0, 0, 0)", "sample(#, 0, 0)", "audit(#)", "repair(#)", "restore(#, 0, 0)", "forget(#, 0)",
            "health(#, 0)", "keeper(#, 0, 0)", "count(#, 5)", "stored(#, #)", "balance(#, #)", "contract(#, 1, 0)"
        };
        for (String call : calls) {
            for (int h = 0; h < 10; h++) {
                run.argument(call.replace("#", "" + h));
            }
        }
        run.idle("settle(0)", "done").due("code(2, 4)", "done").due("settle(1)", "done").argument("settle(0)");
    }

    private static void code() {
        Run run = new Run("p2 something was sealed: not before").with("code(6, 12)", "house(0, 9)", "house(1, 9)");
        run.with("contract(0, 1, 9)").bytes(0, 0, 1).due("code(5, 5)", "done").due("push(0)", 0).due("repair(0)", 0);
        run.with("loseDisk(1)").state("seal(1)").due("code(2, 2)", "done").due("code(3, 4)", "done")
                .due("seal(0)", 0);
        run.state("code(3, 4)").state("code(2, 4)").due("keeper(0, 0, 3)", NONE).argument("keeper(0, 0, 4)");
        run.with("recover(1)").due("push(0)", 1).due("harm(1, 0, 0, 19, 1)", true).argument("harm(1, 0, 0, 20, 1)");
    }

    private static void house() {
        Run run = friends("p3 A house with an empty DISK and folder, UP, without contracts", 1, 2, 2).segmentOf(0, 1);
        run.with("settle(5)", "house(9, 400)", "house(8, 1)").due("up(9, true)", true).due("recover(9)", true);
        for (int what = 0; what < 6; what++) {
            run.due("count(9, " + what + ")", 0);
        }
        for (int tag = 0; tag < 10; tag++) {
            run.due("file(9, " + tag + ", false)", false);
        }
        run.due("stored(9, 0)", 0).due("balance(9, 0)", 0).due("seal(9)", 0).due("push(0)", 1)
                .due("keeper(0, 0, 1)", NONE);
        run.due("contract(9, 0, 100)", false).due("contract(9, 0, 72)", true).due("push(0)", 1)
                .due("keeper(0, 0, 1)", 9);
        run.due("contract(9, 8, 1)", true).idle("contract(9, 8, 2)", false);
    }

    private static void contract() {
        Run run = friends("p4 whether it is now", 2, 2, 2).segmentOf(0, 1).segmentOf(0, 2).due("push(0)", 4);
        run.idle("contract(0, 1, 1)", false).idle("contract(1, 0, 1)", false).due("contract(1, 0, 2)", true);
        run.segmentOf(0, 3).due("push(0)", 1).due("keeper(0, 2, 0)", 2).due("keeper(0, 2, 1)", NONE);
        run.with("harm(1, 0, 0, 0, 0)").idle("contract(1, 0, 0)", false).due("contract(1, 0, 1)", true)
                .idle("push(0)", 0);
        run.with("house(5, 400)").due("contract(1, 5, 29)", true).idle("contract(1, 5, 30)", false);
        run.idle("contract(1, 0, 2)", false).due("contract(1, 5, 28)", true).due("contract(1, 0, 2)", true)
                .due("push(0)", 1).due("keeper(0, 2, 1)", 1);
        Run lost = friends("p4 what a lost disk kept", 1, 2, 2).segmentOf(0, 1).due("push(0)", 1).with("loseDisk(1)");
        lost.due("contract(0, 1, 0)", true).with("recover(1)").idle("push(0)", 0);
    }

    private static void write() {
        Run run = friends("p5 A byte more at a file's end: how many it has", 2, 2, 2);
        for (int i = 1; i <= 200; i++) {
            run.due("write(0, 4, " + (i == 200 ? 255 : i % 7) + ")", i);
        }
        run.state("write(0, 4, 1)").due("write(0, 3, 0)", 1).due("write(0, 5, 255)", 1).due("write(1, 4, 7)", 1);
        run.with("seal(0)", "push(0)").due("restore(0, 0, 4)", 200).due("restored(0)", 1).due("restored(199)", 255);
        run.due("restore(0, 0, 3)", 1).due("restored(0)", 0).due("restore(0, 0, 5)", 1).due("restored(0)", 255);
        run.state("write(0, 4, 1)").with("file(0, 4, false)").due("write(0, 4, 9)", 1).due("restore(0, 0, 4)", 200);
        run.with("up(0, false)").due("write(0, 4, 9)", 2).with("loseDisk(0)").state("write(0, 4, 9)");
        run.with("recover(0)").due("write(0, 4, 9)", 1).due("file(0, 3, false)", false);
    }

    private static void file() {
        Run run = friends("p6 A file (also an empty one) is there, without bytes, whatever it was", 2, 2, 2);
        run.due("file(0, 0, false)", false).due("file(0, 0, true)", false).due("file(0, 0, true)", true);
        run.due("file(0, 0, false)", true).due("file(0, 0, false)", false).due("write(0, 0, 7)", 1);
        run.due("file(0, 9, true)", false).due("write(0, 9, 8)", 1).due("write(0, 9, 8)", 2).with("seal(0)");
        run.due("file(0, 9, true)", true).due("file(0, 0, false)", true).with("seal(0)", "push(0)").due("seal(0)", 2);
        run.due("restore(0, 1, 9)", 0).argument("restore(0, 1, 0)").due("restore(0, 0, 9)", 2)
                .due("restore(0, 0, 0)", 1);
        run.due("write(0, 9, 3)", 1).due("file(1, 9, false)", false).with("up(0, false)")
                .due("file(0, 9, true)", true);
    }

    private static void seal() {
        Run run = friends("p7 the snapshot's number", 1, 2, 2).due("seal(0)", 0).due("count(0, 3)", 1)
                .due("seal(1)", 0);
        run.due("seal(0)", 1).due("forget(0, 0)", 0).due("seal(0)", 2).due("count(0, 3)", 2).due("count(0, 4)", 0);
        run.with("up(0, false)").bytes(0, 0, 1).due("seal(0)", 3).due("count(0, 2)", 1).with("loseDisk(0)")
                .state("seal(0)");
        run.with("recover(0)").due("seal(0)", 4).argument("restore(0, 4, 0)").due("count(0, 4)", 1);
        Run each = new Run("p7 each house has 6 snapshots of its own").with("house(0, 9)", "house(9, 9)");
        for (int i = 0; i < 6; i++) {
            each.due("seal(0)", i).due("seal(9)", i);
        }
        each.idle("seal(0)", NONE).idle("seal(9)", NONE).with("forget(9, 5)").idle("seal(0)", NONE).due("seal(9)", 6);
        each.idle("seal(9)", NONE);
    }

    private static void push() {
        Run run = friends("p8 each piece that is not placed is placed if it can be: how many were", 4, 3, 4);
        run.idle("push(0)", 0).with("seal(0)").idle("push(0)", 0).segmentOf(0, 1).due("push(0)", 4)
                .idle("push(0)", 0);
        run.with("contract(0, 4, 1)").segmentOf(0, 2).due("push(0)", 3).due("keeper(0, 1, 2)", 3)
                .due("keeper(0, 1, 3)", NONE);
        run.with("harm(2, 0, 0, 0, 1)").due("audit(0)", 1).due("push(0)", 1).due("keeper(0, 0, 1)", 2);
        Run order = friends("p8 For each segment HELD, by its number", 2, 2, 2)
                .with("contract(0, 1, 1)", "contract(0, 2, 2)");
        order.segmentOf(0, 1).segmentOf(0, 2).segmentOf(0, 3).due("push(0)", 3).due("health(0, 0)", 2);
        order.due("health(0, 1)", 1).due("health(0, 2)", 0).with("loseDisk(0)", "recover(0)", "contract(0, 1, 9)");
        order.with("contract(0, 2, 9)").idle("push(0)", 0).segmentOf(0, 4).due("push(0)", 2).due("health(0, 2)", 0);
    }

    private static void up() {
        Run run = friends("p9 A house is UP, or DOWN: whether it was UP", 1, 2, 2).segmentOf(0, 1).due("push(0)", 1);
        run.idle("up(1, true)", true).due("up(1, false)", true).idle("up(1, false)", false).due("health(0, 0)", 0);
        run.due("stored(1, 0)", 1).due("up(1, true)", false).due("health(0, 0)", 1).with("loseDisk(1)");
        run.due("up(1, false)", true).due("up(1, true)", false).state("seal(1)").due("recover(1)", true);
    }

    private static void loseDisk() {
        Run run = friends("p10 it keeps no pieces, has no files, HOLDS no segments, and is BARE", 2, 2, 2);
        run.segmentOf(0, 1).segmentOf(1, 2).with("file(1, 0, true)").due("push(0)", 2).due("push(1)", 1)
                .with("settle(4)");
        run.with("loseDisk(1)").due("count(1, 5)", 0).due("stored(1, 0)", 0).due("count(1, 2)", 0)
                .due("count(2, 5)", 1);
        run.state("file(1, 0, true)").due("keeper(0, 0, 0)", 1).due("count(0, 2)", 1).due("stored(0, 1)", 1);
        run.due("count(1, 0)", 1).due("count(1, 1)", 1).due("balance(1, 0)", 0).due("balance(2, 0)", 4);
        run.due("up(1, true)", true).due("recover(1)", true).due("file(1, 0, true)", false)
                .due("file(1, 8, true)", false);
        run.due("count(1, 2)", 0).due("contract(1, 2, 21)", true).idle("contract(1, 2, 22)", false)
                .with("loseDisk(0)");
        run.due("count(2, 5)", 1).due("count(0, 5)", 0).due("count(0, 2)", 0).due("keeper(0, 0, 1)", 2);
        Run fresh = new Run("p10 a house with nothing").with("house(3, 5)", "loseDisk(3)").state("audit(3)");
        fresh.due("recover(3)", true).idle("audit(3)", 0);
    }

    private static void harm() {
        Run run = friends("p11 gone there (mask 0), or byte at of it is ^ mask", 2, 2, 2).segmentOf(0, 1)
                .due("push(0)", 2);
        run.due("harm(1, 0, 0, 0, 255)", true).due("health(0, 0)", 1).due("harm(1, 0, 0, 0, 254)", true);
        run.due("health(0, 0)", 1).due("harm(1, 0, 0, 0, 1)", true).due("health(0, 0)", 2);
        run.due("harm(2, 0, 0, 29, 1)", true).due("health(0, 0)", 1).due("stored(2, 0)", 1).with("up(2, false)");
        run.due("harm(2, 0, 0, 29, 1)", true).with("up(2, true)").due("health(0, 0)", 2)
                .due("harm(1, 0, 0, 29, 0)", true);
        run.due("stored(1, 0)", 0).due("count(1, 5)", 0).idle("harm(1, 0, 0, 0, 0)", false).due("keeper(0, 0, 0)", 1);
        run.with("repair(0)").due("harm(1, 0, 0, 0, 1)", true).with("loseDisk(0)").due("harm(2, 0, 0, 0, 0)", true);
    }

    private static void recover() {
        Run run = friends("p12 if it has a REACHABLE piece", 3, 3, 3).segmentOf(0, 1).segmentOf(0, 2)
                .due("push(0)", 6);
        run.with("loseDisk(0)", "loseDisk(1)", "loseDisk(2)", "harm(3, 0, 0, 0, 0)", "up(3, false)");
        run.idle("recover(0)", false).state("seal(0)").with("up(3, true)", "harm(3, 0, 1, 0, 255)", "up(0, false)");
        run.due("recover(0)", true).due("count(0, 3)", 2).due("count(0, 2)", 0).due("keeper(0, 0, 0)", 1);
        run.due("up(0, false)", false);
        run.due("keeper(0, 1, 2)", 3).due("file(0, 8, true)", false).due("forget(0, 0)", 1).with("loseDisk(0)");
        run.due("recover(0)", true).with("harm(3, 0, 1, 0, 0)").idle("recover(0)", true).with("loseDisk(0)");
        run.idle("recover(0)", false);
    }

    private static void recoverNeverPlaced() {
        Run run = friends("p12 or never placed one", 1, 2, 2).segmentOf(0, 1).with("loseDisk(0)")
                .due("recover(0)", true);
        run.due("count(0, 3)", 1).due("count(0, 2)", 0).with("loseDisk(0)", "up(0, false)").due("recover(0)", true);
        run.with("up(0, true)").segmentOf(0, 2).with("up(1, false)").due("push(0)", 0).with("loseDisk(0)");
        run.due("recover(0)", true).segmentOf(0, 3).with("up(1, true)").due("push(0)", 1).with("loseDisk(1)");
        run.with("loseDisk(0)").idle("recover(0)", false).due("recover(1)", true).idle("recover(0)", false);
        Run freed = friends("p12 never: one that is freed was placed", 1, 2, 2).segmentOf(0, 1).due("push(0)", 1);
        freed.due("forget(0, 0)", 1).with("loseDisk(0)").idle("recover(0)", false);
    }

    private static void sample() {
        Run run = friends("p13 SILENT if its house is DOWN; MISMATCH if it has it not, or another answer", 2, 2, 3);
        run.segmentOf(0, 1).due("push(0)", 2).due("sample(0, 0, 0)", MATCH).with("harm(1, 0, 0, 9, 1)");
        run.due("sample(0, 0, 0)", MISMATCH).with("up(1, false)").due("sample(0, 0, 0)", SILENT)
                .with("harm(1, 0, 0, 9, 1)");
        run.due("sample(0, 0, 0)", SILENT).with("up(1, true)").due("sample(0, 0, 0)", MATCH)
                .with("harm(1, 0, 0, 0, 0)");
        run.due("sample(0, 0, 0)", MISMATCH).with("up(1, false)").due("sample(0, 0, 0)", SILENT).with("up(1, true)");
        run.due("sample(0, 0, 0)", MISMATCH).idle("sample(0, 0, 0)", NONE).idle("sample(0, 0, 2)", NONE);
        run.with("up(0, false)").due("sample(0, 0, 1)", MATCH).with("loseDisk(0)", "recover(0)");
        run.due("sample(0, 0, 1)", MATCH).with("loseDisk(2)").due("sample(0, 0, 1)", MISMATCH);
    }

    private static void audit() {
        Run run = friends("p14 Each placed piece whose house is UP, and has it not, or other bytes", 4, 2, 4)
                .idle("audit(0)", 0).segmentOf(0, 1).idle("audit(0)", 0).due("push(0)", 4).idle("audit(0)", 0);
        run.with("harm(1, 0, 0, 0, 1)", "harm(2, 0, 0, 29, 128)", "harm(3, 0, 0, 0, 0)");
        run.with("up(2, false)", "up(0, false)");
        run.due("audit(0)", 2).due("keeper(0, 0, 0)", NONE).due("stored(1, 0)", 0).due("keeper(0, 0, 1)", 2);
        run.due("stored(2, 0)", 1).due("keeper(0, 0, 2)", NONE).due("keeper(0, 0, 3)", 4).idle("audit(0)", 0);
        run.with("up(2, true)").due("audit(0)", 1).due("count(2, 5)", 0).with("loseDisk(4)").due("audit(0)", 1);
        run.due("keeper(0, 0, 3)", NONE).idle("audit(0)", 0).with("up(0, true)").due("push(0)", 3);
        Run held = friends("p14 of segments HELD", 2, 2, 2).segmentOf(0, 1).due("push(0)", 2).with("loseDisk(0)");
        held.with("recover(0)", "harm(1, 0, 0, 0, 1)").idle("audit(0)", 0).due("repair(0)", 0).idle("audit(0)", 0);
        held.with("harm(1, 0, 0, 0, 1)").due("audit(0)", 1).due("keeper(0, 0, 0)", NONE).due("health(0, 0)", 1);
    }

    private static void repair() {
        Run run = friends("p15 if it is not HELD, and has K REACHABLE pieces", 4, 3, 4).idle("repair(0)", 0)
                .segmentOf(0, 1);
        run.due("repair(0)", 4).idle("repair(0)", 0)
                .with("loseDisk(0)", "recover(0)", "up(1, false)", "harm(2, 0, 0, 0, 0)");
        run.idle("repair(0)", 0).due("count(0, 2)", 0).due("keeper(0, 0, 1)", 2).with("up(1, true)")
                .due("repair(0)", 1);
        run.due("count(0, 2)", 1).due("health(0, 0)", 4).with("up(3, false)", "harm(3, 0, 0, 0, 0)")
                .idle("repair(0)", 0);
        run.with("up(3, true)").due("repair(0)", 1).with("loseDisk(4)").due("repair(0)", 0)
                .due("keeper(0, 0, 3)", NONE);
        run.with("recover(4)").due("repair(0)", 1).due("keeper(0, 0, 3)", 4);
        Run many = friends("p15 For each segment, by its number", 2, 2, 2).segmentOf(0, 1).segmentOf(0, 2)
                .segmentOf(0, 3);
        many.with("contract(0, 1, 1)", "contract(0, 2, 1)").due("repair(0)", 2).due("health(0, 0)", 2);
        many.with("contract(0, 1, 2)", "contract(0, 2, 2)", "forget(0, 0)").due("repair(0)", 4)
                .due("health(0, 2)", 2);
        many.with("harm(1, 0, 1, 0, 0)", "loseDisk(0)", "recover(0)").idle("push(0)", 0).due("repair(0)", 0);
        many.due("count(0, 2)", 1).due("keeper(0, 1, 0)", 1).argument("keeper(0, 0, 0)");
    }

    /** Were the second piece still in the book when the first one is placed, house 2 could not have that. */
    private static void repairUnplacesFirst() {
        Run run = friends("p15 then pieces that they have not are not placed, and all are placed", 3, 2, 2);
        run.with("up(3, false)").segmentOf(0, 1).due("push(0)", 2).with("up(3, true)", "harm(1, 0, 0, 0, 0)");
        run.with("harm(2, 0, 0, 0, 0)", "contract(0, 1, 0)").due("repair(0)", 2).due("keeper(0, 0, 0)", 2);
        run.due("keeper(0, 0, 1)", 3);
    }

    private static void repairSolved() {
        Run run = friends("p15 it is SOLVED by those of the least numbers", 5, 2, 4).segmentOf(0, 1)
                .due("push(0)", 4);
        run.with("harm(3, 0, 0, 0, 1)", "harm(4, 0, 0, 0, 1)", "loseDisk(0)", "recover(0)").due("repair(0)", 0);
        run.due("audit(0)", 2).due("push(0)", 2).due("health(0, 0)", 4).with("harm(2, 0, 0, 0, 1)", "loseDisk(0)");
        run.with("recover(0)", "up(1, false)").due("repair(0)", 0).with("up(1, true)").due("audit(0)", 2);
        run.due("keeper(0, 0, 1)", 2).due("keeper(0, 0, 0)", NONE).due("keeper(0, 0, 3)", NONE);
    }

    private static void restore() {
        for (int k = 2; k <= 6; k++) {
            Run run = friends("p16 NONE if a segment has less than K REACHABLE pieces, K " + k, k + 1, k, k + 1);
            run.smallChunks(0, 3, 0, 16).with("file(0, 4, true)").bytes(0, 5, 200).with("seal(0)");
            run.idle("restore(0, 0, 3)", NONE).due("restore(0, 0, 4)", 0).due("push(0)", 2 * k + 2);
            run.due("restore(0, 0, 3)", 64).due("restored(63)", Scene.smallChunk(15)[3]).with("up(1, false)");
            run.due("restore(0, 0, 3)", 64).due("restored(60)", 15).with("harm(2, 0, 0, 0, 0)");
            run.idle("restore(0, 0, 3)", NONE).due("restored(63)", Scene.smallChunk(15)[3])
                    .due("restore(0, 0, 5)", 1);
            run.due("restored(0)", 200).idle("restore(0, 0, 3)", NONE).with("up(1, true)")
                    .due("restore(0, 0, 3)", 64);
            run.with("harm(1, 0, 1, 0, 0)").due("restore(0, 0, 5)", 1).with("loseDisk(2)")
                    .idle("restore(0, 0, 5)", NONE);
            run.due("restore(0, 0, 4)", 0).idle("restored(0)", NONE);
        }
    }

    private static void restoreByLeast() {
        Run run = friends("p16 Each is SOLVED by those of the least numbers", 4, 2, 4).bytes(0, 0, 100)
                .with("seal(0)");
        run.due("push(0)", 4).with("harm(3, 0, 0, 0, 1)", "harm(4, 0, 0, 0, 1)").due("restore(0, 0, 0)", 1);
        run.due("restored(0)", 100).with("harm(1, 0, 0, 0, 128)").due("restore(0, 0, 0)", 1)
                .due("restored(0)", 100 ^ 178);
        run.with("harm(1, 0, 0, 0, 128)", "harm(2, 0, 0, 0, 255)").due("restore(0, 0, 0)", 1)
                .due("restored(0)", 100 ^ 24);
        run.with("loseDisk(0)").state("restore(0, 0, 0)").with("recover(0)", "up(0, false)")
                .due("restore(0, 0, 0)", 1);
        run.due("count(0, 2)", 0).due("count(0, 5)", 0).due("file(0, 0, false)", false);
    }

    private static void restored() {
        Run run = friends("p17 Byte i of what was restored last; NONE if there is none such", 2, 2, 2)
                .bytes(0, 0, 7, 8, 9);
        run.bytes(0, 1, 5).with("file(0, 2, true)", "seal(0)").idle("restored(0)", NONE).with("push(0)");
        run.idle("restored(0)", NONE).with("restore(0, 0, 0)").idle("restored(0)", 7).idle("restored(2)", 9);
        run.idle("restored(3)", NONE).idle("restored(-1)", NONE).with("restore(0, 0, 1)").idle("restored(0)", 5);
        run.idle("restored(1)", NONE).with("restore(0, 0, 2)").idle("restored(0)", NONE).with("restore(0, 0, 0)");
        run.with("forget(0, 0)", "loseDisk(0)").idle("restored(0)", 7).idle("restored(2)", 9)
                .idle("restored(3)", NONE);
    }

    private static void forget() {
        Run run = friends("p18 segments of which no snapshot has a chunk are FREED: how many of them", 2, 2, 2)
                .with("seal(0)");
        run.due("forget(0, 0)", 0).bytes(0, 0, 1).with("seal(0)", "push(0)", "seal(0)").due("forget(0, 1)", 0);
        run.due("health(0, 0)", 2).bytes(0, 1, 2).with("seal(0)", "push(0)", "file(0, 0, false)").bytes(0, 2, 3);
        run.with("seal(0)", "push(0)").due("count(0, 0)", 3).due("forget(0, 2)", 0).due("forget(0, 3)", 1);
        run.argument("health(0, 0)").due("count(0, 1)", 2).due("stored(1, 0)", 2).due("count(0, 2)", 2);
        run.with("loseDisk(0)", "recover(0)").due("forget(0, 4)", 2).due("count(0, 1)", 0).due("count(0, 4)", 0);
        run.due("count(0, 3)", 0).due("count(1, 5)", 0).argument("forget(0, 4)").with("seal(0)")
                .due("forget(0, 5)", 0);
        Run part = friends("p18 a segment of which a snapshot has one chunk still", 2, 2, 2).smallChunks(0, 0, 0, 15);
        part.with("seal(0)", "push(0)", "file(0, 0, false)").smallChunks(0, 9, 14, 15).with("seal(0)");
        part.due("forget(0, 0)", 0).due("count(0, 4)", 1).due("health(0, 0)", 2).due("restore(0, 1, 9)", 4);
        part.due("restored(0)", 14).due("forget(0, 1)", 1);
    }

    private static void health() {
        Run run = friends("p19 REACHABLE pieces with the bytes that they must have by what was sealed", 3, 2, 3);
        run.segmentOf(0, 1).idle("health(0, 0)", 0).with("up(3, false)", "push(0)").idle("health(0, 0)", 2);
        run.with("up(3, true)", "push(0)").idle("health(0, 0)", 3).with("harm(1, 0, 0, 29, 1)")
                .idle("health(0, 0)", 2);
        run.with("loseDisk(0)").idle("health(0, 0)", 2).with("recover(0)", "repair(0)").idle("health(0, 0)", 2);
        run.due("audit(0)", 1).due("push(0)", 1).idle("health(0, 0)", 1).with("up(2, false)").idle("health(0, 0)", 0);
    }

    private static void keeper() {
        Run run = friends("p20 The house with which a piece is placed; NONE if it is not", 2, 2, 12).segmentOf(0, 1);
        run.idle("keeper(0, 0, 0)", NONE).idle("keeper(0, 0, 11)", NONE).argument("keeper(0, 0, 12)").with("push(0)");
        run.idle("keeper(0, 0, 0)", 1).idle("keeper(0, 0, 1)", 2).idle("keeper(0, 0, 2)", NONE).with("loseDisk(0)");
        run.idle("keeper(0, 0, 1)", 2).with("loseDisk(2)").idle("keeper(0, 0, 1)", 2);
    }

    private static void count() {
        Run run = friends("p21 0 segments ever, 1 not freed, 2 HELD, 3 snapshots, 4 chunks, 5 pieces", 2, 2, 2);
        countsDue(run, 0, 0, 0, 0, 0, 0, 0);
        countsDue(run.bytes(0, 0, 1).bytes(0, 1, 1).bytes(0, 2, 2).with("seal(0)"), 0, 1, 1, 1, 1, 2, 0);
        countsDue(run.with("file(0, 0, false)", "seal(0)").segmentOf(0, 3), 0, 2, 2, 2, 3, 3, 0);
        countsDue(run.with("push(0)"), 1, 0, 0, 0, 0, 0, 2);
        countsDue(run.segmentOf(1, 9).with("push(1)"), 0, 2, 2, 2, 3, 3, 1);
        countsDue(run.with("file(0, 1, false)", "file(0, 2, false)", "seal(0)", "forget(0, 0)"), 0, 2, 2, 2, 3, 3, 1);
        countsDue(run.with("forget(0, 1)", "forget(0, 2)"), 0, 2, 1, 1, 1, 1, 1);
        countsDue(run.with("loseDisk(0)"), 0, 2, 1, 0, 1, 1, 0);
        countsDue(run.with("recover(0)", "forget(0, 3)"), 0, 2, 0, 0, 0, 0, 0);
        countsDue(run, 1, 1, 1, 1, 1, 1, 0);
    }

    private static void countsDue(Run run, int h, int... counts) {
        for (int what = 0; what < counts.length; what++) {
            run.due("count(" + h + ", " + what + ")", counts[what]);
        }
    }

    private static void stored() {
        Run run = friends("p22 How many pieces of an owner a house keeps", 2, 2, 2).segmentOf(0, 1)
                .idle("stored(1, 0)", 0);
        run.with("push(0)").idle("stored(1, 0)", 1).idle("stored(0, 1)", 0).idle("stored(2, 1)", 0)
                .idle("stored(1, 1)", 0);
        run.with("up(1, false)").idle("stored(1, 0)", 1).with("loseDisk(0)").idle("stored(1, 0)", 1)
                .with("loseDisk(1)");
        run.idle("stored(1, 0)", 0).idle("stored(2, 0)", 1);
    }

    private static void settle() {
        Run run = friends("p23 Days go by up to this one", 2, 2, 2).segmentOf(0, 1)
                .with("settle(9)", "push(0)", "settle(9)");
        run.due("balance(1, 0)", 0).with("settle(10)").due("balance(1, 0)", 1).argument("settle(9)")
                .with("up(1, false)");
        run.with("settle(12)").due("balance(1, 0)", 3).with("loseDisk(0)", "settle(13)").due("balance(1, 0)", 4);
        run.with("loseDisk(1)", "settle(9999)").due("balance(1, 0)", 4).due("balance(2, 0)", 9990)
                .with("settle(10000)");
        run.due("balance(2, 0)", 9991).idle("settle(10000)", "done").argument("settle(10001)")
                .argument("settle(9999)");
        Run all = friends("p23 all days at once", 2, 2, 2).segmentOf(0, 1).segmentOf(0, 2)
                .with("push(0)", "settle(10000)");
        all.due("balance(1, 0)", 20000).due("balance(0, 2)", -20000).argument("settle(0)");
    }

    private static void balance() {
        Run run = friends("p24 the days of pieces that a kept for b, less those that b kept for a", 2, 2, 2);
        run.idle("balance(0, 0)", 0).idle("balance(0, 1)", 0).segmentOf(0, 1).segmentOf(0, 2).segmentOf(1, 3)
                .with("push(0)");
        run.with("push(1)", "settle(3)").idle("balance(1, 0)", 3).idle("balance(0, 1)", -3).idle("balance(2, 0)", 6);
        run.idle("balance(1, 2)", 0).idle("balance(0, 0)", 0).with("forget(0, 0)", "forget(0, 1)", "settle(5)");
        run.idle("balance(1, 0)", 1).with("settle(7)").idle("balance(1, 0)", -1).idle("balance(0, 1)", 1);
        run.with("contract(0, 2, 0)").idle("balance(2, 0)", 6).with("house(9, 1)").idle("balance(9, 0)", 0);
    }
}
