/**
 * Each call that is refused, by each of its reasons: the exception or answer that the document names, the first one
 * where several would be due, and nothing changed by it.
 */
final class RefusedTest {
    private static final int NONE = FriendBackup.NONE;

    private RefusedTest() {
    }

    public static void main(String[] args) {
        code();
        house();
        contract();
        write();
        file();
        seal();
        push();
        upAndLoseDisk();
        harm();
        recover();
        sample();
        audit();
        repair();
        restore();
        forget();
        looks();
        settle();
        Check.end();
    }

    /**
     * House 0 has the snapshots 0 to 2 and a forgotten one, 3; its segments 0 and 1 are placed with the houses 1 to 3,
     * the second is harmed there; segment 2 is not placed, segment 3 freed. House 1 is an owner too, house 5 a
     * stranger.
     */
    private static Run base(String sentence) {
        Run run = new Run(sentence)
                .with("house(0, 30)", "house(1, 12)", "house(2, 12)", "house(3, 12)", "house(5, 400)");
        run.with("contract(0, 1, 5)", "contract(0, 2, 5)", "contract(0, 3, 5)", "contract(1, 2, 3)", "code(2, 3)");
        run.smallChunks(0, 0, 0, 2).bytes(0, 4, 7, 7, 7, 7, 7).with("file(0, 9, true)", "seal(0)", "push(0)");
        run.bytes(0, 4, 8).with("file(0, 9, false)", "seal(0)", "push(0)");
        run.bytes(0, 1, 9, 9, 9).with("seal(0)").bytes(0, 1, 6).with("seal(0)", "forget(0, 3)");
        run.bytes(1, 2, 33, 44).with("seal(1)", "push(1)");
        return run.with("harm(1, 0, 1, 3, 5)", "sample(0, 0, 0)", "restore(0, 0, 4)", "settle(3)");
    }

    private static Run bare(String sentence) {
        return base(sentence).with("loseDisk(0)");
    }

    private static void code() {
        new Run("p2 IllegalArgument").argument("code(1, 4)").argument("code(7, 9)").argument("code(4, 3)");
        new Run("p2 IllegalArgument").with("house(0, 5)", "code(5, 6)").argument("code(6, 5)")
                .argument("code(5, 13)");
        base("p2 something was sealed").state("code(2, 3)").state("code(2, 4)").state("code(6, 12)");
        base("p2 both, the first wins").argument("code(1, 3)").argument("code(3, 2)").argument("code(3, 13)");
        new Run("p2 an empty folder was sealed").with("house(3, 5)", "seal(3)").state("code(2, 4)");
        base("p2 sealed, and forgotten").with("forget(0, 0)", "forget(0, 1)", "forget(0, 2)", "forget(1, 0)")
                .state("code(2, 3)");
        bare("p2 sealed, and lost").with("loseDisk(1)").state("code(2, 3)");
    }

    private static void house() {
        base("p3 IllegalArgument").argument("house(4, 0)").argument("house(4, 401)").argument("house(10, 5)");
        base("p3 there is one with this number").state("house(0, 30)").state("house(5, 1)").state("house(3, 400)");
        bare("p3 there is one, BARE").state("house(0, 30)");
        base("p3 there is one, DOWN").with("up(2, false)").state("house(2, 12)");
        base("p3 both, the first wins").argument("house(0, 0)").argument("house(0, 401)");
    }

    private static void contract() {
        base("p4 no such house").argument("contract(0, 4, 1)").argument("contract(4, 0, 1)")
                .argument("contract(4, 6, 1)");
        base("p4 both are the same").argument("contract(0, 0, 1)").argument("contract(5, 5, 0)")
                .argument("contract(4, 4, 1)");
        base("p4 no such limit").argument("contract(0, 5, -1)").argument("contract(0, 5, 101)")
                .argument("contract(0, 1, 101)");
        base("p4 the first's DISK would be too small").idle("contract(0, 5, 16)", false)
                .allowed("contract(0, 5, 15)");
        base("p4 the second's DISK would be too small").idle("contract(5, 0, 16)", false)
                .idle("contract(2, 3, 5)", false)
                .idle("contract(3, 2, 5)", false).due("contract(3, 2, 4)", true);
        base("p4 the DISK would be too small, not counting the old limit").idle("contract(0, 1, 10)", false)
                .due("contract(0, 1, 9)", true);
        base("p4 the second keeps more for the first").idle("contract(0, 1, 1)", false)
                .idle("contract(0, 3, 0)", false)
                .due("contract(0, 1, 2)", true);
        base("p4 the first keeps more for the second").idle("contract(3, 0, 1)", false)
                .idle("contract(2, 1, 0)", false)
                .due("contract(2, 1, 1)", true);
        base("p4 one that is DOWN keeps more").with("up(3, false)").idle("contract(0, 3, 1)", false);
        bare("p4 one that is BARE has its pieces kept").idle("contract(0, 3, 1)", false);
    }

    private static void write() {
        base("p5 IllegalArgument").argument("write(4, 0, 0)").argument("write(0, 10, 0)").argument("write(0, 0, 256)")
                .argument("write(0, -1, 0)").argument("write(0, 0, -1)");
        for (int tag = 0; tag < 10; tag++) {
            bare("p5 BARE").state("write(0, " + tag + ", 255)");
        }
        bare("p5 BARE and DOWN").with("up(0, false)").state("write(0, 0, 0)");
        bare("p5 both, the first wins").argument("write(0, 10, 0)").argument("write(0, 0, 256)");
        Run full = new Run("p5 it has 200").with("house(0, 9)").equalBytes(0, 6, 3, 199).allowed("write(0, 6, 3)");
        full.bytes(0, 6, 4).state("write(0, 6, 5)").state("write(0, 6, 0)");
        full.argument("write(0, 6, 256)").argument("write(0, 6, -1)").argument("write(1, 6, 0)")
                .due("write(0, 5, 1)", 1);
        full.due("file(0, 6, true)", true).due("write(0, 6, 5)", 1);
    }

    private static void file() {
        base("p6 IllegalArgument").argument("file(4, 0, true)").argument("file(0, 10, true)")
                .argument("file(0, -1, true)")
                .argument("file(0, 10, false)").argument("file(0, -1, false)");
        for (int tag = 0; tag < 10; tag++) {
            bare("p6 BARE").state("file(0, " + tag + ", true)").state("file(0, " + tag + ", false)");
        }
        bare("p6 both, the first wins").argument("file(0, 10, true)").argument("file(0, -1, false)");
    }

    private static void seal() {
        base("p7 IllegalArgument").argument("seal(4)").argument("seal(-1)").argument("seal(10)");
        bare("p7 BARE").state("seal(0)");
        Run six = base("p7 the house has 6 snapshots").with("seal(0)", "seal(0)").allowed("seal(0)").with("seal(0)");
        six.idle("seal(0)", NONE).bytes(0, 5, 1).idle("seal(0)", NONE).due("count(0, 3)", 6).due("forget(0, 2)", 1);
        six.due("seal(0)", 7).idle("seal(0)", NONE);
        base("p7 6 snapshots and BARE").with("seal(0)", "seal(0)", "seal(0)", "loseDisk(0)").state("seal(0)");
        Run thirty = new Run("p7 it has made 30").with("house(0, 9)", "house(1, 9)", "contract(0, 1, 9)")
                .bytes(0, 0, 7, 8);
        for (int i = 0; i < 30; i++) {
            thirty.due("seal(0)", i).due("forget(0, " + i + ")", 1);
        }
        thirty.idle("seal(0)", NONE).due("count(0, 3)", 0).due("seal(1)", 0);
        Run forty = new Run("p7 it would have had more than 40 segments ever").with("house(0, 9)")
                .smallChunks(0, 0, 0, 31);
        for (int i = 0; i < 13; i++) {
            forty.with("seal(0)", "forget(0, " + i + ")");
        }
        forty.due("count(0, 0)", 39).idle("seal(0)", NONE).with("file(0, 0, false)").smallChunks(0, 0, 0, 16);
        forty.idle("seal(0)", NONE).due("count(0, 0)", 39).with("file(0, 0, false)").smallChunks(0, 0, 0, 15);
        forty.due("seal(0)", 13).due("count(0, 0)", 40).due("seal(0)", 14).due("count(0, 0)", 40);
        forty.bytes(0, 1, 1).idle("seal(0)", NONE).due("count(0, 3)", 2).with("file(0, 1, false)").due("seal(0)", 15);
    }

    private static void push() {
        base("p8 IllegalArgument").argument("push(4)").argument("push(-1)").argument("push(10)");
        bare("p8 BARE").state("push(0)");
        base("p8 DOWN").with("up(0, false)").state("push(0)").due("up(0, true)", false).due("push(0)", 3);
        bare("p8 BARE and DOWN").with("up(0, false)").state("push(0)");
        base("p8 nothing to place").with("push(0)").idle("push(0)", 0);
        base("p8 no segments").idle("push(5)", 0);
    }

    private static void upAndLoseDisk() {
        base("p9 IllegalArgument").argument("up(4, true)").argument("up(4, false)").argument("up(10, false)");
        base("p9 as it was").idle("up(0, true)", true).with("up(0, false)").idle("up(0, false)", false);
        base("p10 IllegalArgument").argument("loseDisk(4)").argument("loseDisk(-1)").argument("loseDisk(10)");
        bare("p10 a second time").idle("loseDisk(0)", "done");
    }

    private static void harm() {
        base("p11 keeper is no house").argument("harm(4, 0, 0, 0, 1)").argument("harm(4, 0, 0, 0, 0)")
                .argument("harm(10, 0, 0, 0, 1)");
        base("p11 owner is no house").argument("harm(1, 4, 0, 0, 1)").argument("harm(1, -1, 0, 0, 0)");
        base("p11 no such segment").argument("harm(1, 0, 4, 0, 1)").argument("harm(1, 0, -1, 0, 0)")
                .argument("harm(0, 5, 0, 0, 1)");
        base("p11 a freed segment").argument("harm(1, 0, 3, 0, 1)").argument("harm(1, 0, 3, 0, 0)");
        base("p11 at is no place in a piece").argument("harm(1, 0, 0, 30, 1)").argument("harm(1, 0, 0, -1, 1)")
                .argument("harm(1, 0, 0, 30, 0)").argument("harm(5, 0, 0, 30, 1)");
        base("p11 mask not 0 .. 255").argument("harm(1, 0, 0, 0, 256)").argument("harm(1, 0, 0, 0, -1)")
                .argument("harm(5, 0, 0, 0, 256)");
        base("p11 it keeps none").idle("harm(5, 0, 0, 0, 1)", false).idle("harm(5, 0, 0, 0, 0)", false);
        base("p11 it keeps none of this segment").idle("harm(1, 0, 2, 0, 1)", false)
                .idle("harm(3, 1, 0, 0, 0)", false);
        base("p11 a house keeps none of its own").idle("harm(0, 0, 0, 0, 1)", false)
                .idle("harm(0, 0, 0, 0, 0)", false);
        base("p11 it keeps none any more").with("harm(1, 0, 0, 0, 0)").idle("harm(1, 0, 0, 0, 0)", false)
                .idle("harm(1, 0, 0, 5, 9)", false);
        base("p11 its disk was lost").with("loseDisk(1)").idle("harm(1, 0, 0, 0, 0)", false);
    }

    private static void recover() {
        base("p12 IllegalArgument").argument("recover(4)").argument("recover(-1)").argument("recover(10)");
        base("p12 it is not BARE").idle("recover(0)", true).idle("recover(5)", true).with("up(0, false)")
                .idle("recover(0)", true);
        bare("p12 its pieces are with houses that are DOWN").with("up(1, false)", "up(2, false)", "up(3, false)")
                .idle("recover(0)", false).with("up(3, true)").due("recover(0)", true);
        bare("p12 its pieces are gone").with("loseDisk(1)", "loseDisk(2)", "harm(3, 0, 0, 0, 0)")
                .allowed("recover(0)").with("harm(3, 0, 1, 0, 0)").idle("recover(0)", false);
    }

    private static void sample() {
        base("p13 no such house").argument("sample(4, 0, 0)").argument("sample(10, 0, 0)");
        base("p13 no such segment").argument("sample(0, 4, 0)").argument("sample(0, -1, 0)")
                .argument("sample(5, 0, 0)");
        base("p13 a freed segment").argument("sample(0, 3, 0)").argument("sample(0, 3, 3)");
        base("p13 no such piece").argument("sample(0, 0, 3)").argument("sample(0, 0, -1)")
                .argument("sample(0, 2, 3)");
        bare("p13 BARE").state("sample(0, 0, 0)").state("sample(0, 2, 0)");
        bare("p13 both, the first wins").argument("sample(0, 4, 0)").argument("sample(0, 3, 0)")
                .argument("sample(0, 0, 3)");
        base("p13 it is not placed").idle("sample(0, 2, 0)", NONE).idle("sample(0, 2, 2)", NONE)
                .idle("sample(1, 0, 2)", NONE);
        Run asked = base("p13 all were asked");
        for (int q = 1; q < 8; q++) {
            asked.due("sample(0, 0, 0)", FriendBackup.MATCH);
        }
        asked.idle("sample(0, 0, 0)", NONE).with("up(1, false)").idle("sample(0, 0, 0)", NONE);
        asked.with("harm(1, 0, 0, 0, 0)").idle("sample(0, 0, 0)", NONE).due("sample(0, 0, 1)", FriendBackup.MATCH);
    }

    private static void audit() {
        base("p14 IllegalArgument").argument("audit(4)").argument("audit(-1)").argument("audit(10)");
        bare("p14 BARE").state("audit(0)");
        base("p14 none is other than it must be").with("harm(1, 0, 1, 3, 5)").idle("audit(0)", 0);
        base("p14 the house that has another is DOWN").with("up(1, false)").idle("audit(0)", 0);
        bare("p14 no segment is HELD").with("recover(0)").idle("audit(0)", 0);
        base("p14 no segments").idle("audit(5)", 0);
    }

    private static void repair() {
        base("p15 IllegalArgument").argument("repair(4)").argument("repair(-1)").argument("repair(10)");
        bare("p15 BARE").state("repair(0)");
        base("p15 DOWN").with("up(0, false)").state("repair(0)");
        bare("p15 BARE and DOWN").with("up(0, false)").state("repair(0)");
        base("p15 nothing to place").with("push(0)").idle("repair(0)", 0);
        bare("p15 less than K REACHABLE").with("recover(0)", "up(1, false)", "up(2, false)").idle("repair(0)", 0);
        base("p15 no segments").idle("repair(5)", 0);
    }

    private static void restore() {
        base("p16 no such house").argument("restore(4, 0, 0)").argument("restore(-1, 0, 0)");
        base("p16 no such snapshot").argument("restore(0, 4, 0)").argument("restore(0, -1, 0)")
                .argument("restore(5, 0, 0)");
        base("p16 a forgotten snapshot").argument("restore(0, 3, 0)");
        base("p16 no such tag").argument("restore(0, 0, 10)").argument("restore(0, 0, -1)");
        base("p16 the snapshot has no such file").argument("restore(0, 0, 1)").argument("restore(0, 1, 9)");
        bare("p16 BARE").state("restore(0, 0, 0)").state("restore(0, 0, 9)").state("restore(0, 2, 1)");
        bare("p16 both, the first wins").argument("restore(0, 4, 0)").argument("restore(0, 3, 0)")
                .argument("restore(0, 0, 10)").argument("restore(0, 0, 1)");
        base("p16 a segment that it needs was never placed").idle("restore(0, 2, 1)", NONE);
        base("p16 one of the segments has less than K").with("harm(2, 0, 1, 0, 0)").allowed("restore(0, 1, 4)")
                .with("harm(3, 0, 1, 0, 0)").idle("restore(0, 1, 4)", NONE).due("restore(0, 1, 0)", 8);
    }

    private static void forget() {
        base("p18 no such house").argument("forget(4, 0)").argument("forget(10, 0)");
        base("p18 no such snapshot").argument("forget(0, 4)").argument("forget(0, -1)").argument("forget(5, 0)");
        base("p18 forgotten before").argument("forget(0, 3)").with("forget(0, 0)").argument("forget(0, 0)");
        bare("p18 BARE").state("forget(0, 0)").state("forget(0, 2)");
        bare("p18 both, the first wins").argument("forget(0, 3)").argument("forget(0, 4)");
    }

    private static void looks() {
        base("p19 IllegalArgument").argument("health(4, 0)").argument("health(0, 4)").argument("health(0, -1)")
                .argument("health(0, 3)").argument("health(5, 0)");
        base("p20 IllegalArgument").argument("keeper(4, 0, 0)").argument("keeper(0, 4, 0)")
                .argument("keeper(0, 3, 0)")
                .argument("keeper(0, -1, 0)").argument("keeper(0, 0, 3)").argument("keeper(0, 0, -1)");
        base("p21 IllegalArgument").argument("count(4, 0)").argument("count(0, 6)").argument("count(0, -1)");
        base("p22 IllegalArgument").argument("stored(4, 0)").argument("stored(0, 4)").argument("stored(4, 4)");
        base("p24 IllegalArgument").argument("balance(4, 0)").argument("balance(0, 4)").argument("balance(4, 4)");
        Run looks = base("looking changes nothing").idle("health(0, 1)", 2).idle("keeper(0, 2, 0)", NONE);
        looks.idle("count(0, 4)", 5).idle("stored(1, 0)", 2).idle("balance(1, 0)", 3).idle("restored(4)", 7);
    }

    private static void settle() {
        base("p23 before the last one").argument("settle(2)").argument("settle(0)").argument("settle(-1)");
        base("p23 above 10,000").argument("settle(10001)").argument("settle(20000)");
        base("p23 no day goes by").idle("settle(3)", "done").due("balance(3, 0)", 6);
    }
}
