/**
 * Every number that a call is given: the first and the last that are allowed, and on both sides the first that is not,
 * and the farthest. "IllegalArgument: also where there is no such house, tag, segment (or it is freed), piece, or
 * snapshot (or it is forgotten), or a number is none of those told here"; and "A call that throws changes nothing".
 */
final class NumbersEdgeTest {
    private NumbersEdgeTest() {
    }

    public static void main(String[] args) {
        code();
        house();
        houses();
        contract();
        files();
        harm();
        pieces();
        snapshots();
        questions();
        days();
        Check.end();
    }

    /** The number stands for # in the call. */
    private static void range(Run run, String call, int first, int last) {
        run.allowed(call.replace("#", "" + first));
        run.allowed(call.replace("#", "" + last));
        run.argument(call.replace("#", "" + (first - 1)));
        run.argument(call.replace("#", "" + (last + 1)));
        run.argument(call.replace("#", "" + Integer.MIN_VALUE));
        run.argument(call.replace("#", "" + Integer.MAX_VALUE));
    }

    /** Houses 0 to 9; 0 and 9 have two segments and two snapshots each, with files 0 and 9. */
    private static Run tenHouses(String sentence) {
        Run run = new Run(sentence).with("code(2, 3)");
        for (int h = 0; h < 10; h++) {
            run.with("house(" + h + ", 40)");
        }
        run.with("contract(0, 1, 4)", "contract(0, 2, 4)", "contract(0, 9, 4)");
        run.with("contract(9, 1, 4)", "contract(9, 2, 4)");
        for (int h = 0; h < 10; h += 9) {
            run.bytes(h, 0, 1).bytes(h, 9, 2).with("seal(" + h + ")");
            run.bytes(h, 0, 3).with("seal(" + h + ")", "push(" + h + ")");
        }
        return run.with("restore(0, 1, 0)", "settle(5)");
    }

    private static void code() {
        Run run = new Run("K, 2 .. 6, and N, K .. 12").with("house(0, 10)");
        range(run, "code(#, 12)", 2, 6);
        for (int k = 2; k <= 6; k++) {
            range(run, "code(" + k + ", #)", k, 12);
        }
        for (int n = 0; n <= 13; n++) {
            run.argument("code(1, " + n + ")").argument("code(7, " + n + ")");
        }
        range(run.with("code(6, 6)"), "code(6, #)", 6, 12);
    }

    private static void house() {
        range(new Run("HOUSES 0 .. 9"), "house(#, 1)", 0, 9);
        range(new Run("a DISK of 1 .. 400 BLOCKS"), "house(0, #)", 1, 400);
        range(new Run("a DISK of 1 .. 400 BLOCKS"), "house(9, #)", 1, 400);
    }

    private static void houses() {
        Run run = tenHouses("no such house");
        String[] calls = {
            "write(#, 0, 1)", "file(#, 0, true)", "file(#, 0, false)", "seal(#)", "push(#)", "up(#, true)",
            "up(#, false)", "loseDisk(#)", "harm(#, 0, 0, 0, 1)", "harm(1, #, 0, 0, 1)", "harm(1, #, 0, 0, 0)",
            "recover(#)", "sample(#, 0, 0)", "audit(#)", "repair(#)", "restore(#, 0, 0)", "forget(#, 0)",
            "health(#, 0)", "keeper(#, 0, 0)", "count(#, 0)", "count(#, 5)", "stored(#, 0)", "stored(0, #)",
            "balance(#, 0)", "balance(0, #)", "contract(#, 5, 1)", "contract(5, #, 1)"
        };
        for (String call : calls) {
            range(run, call, 0, 9);
        }
    }

    private static void contract() {
        range(tenHouses("a LIMIT 0 .. 100"), "contract(0, 5, #)", 0, 100);
        range(tenHouses("a LIMIT 0 .. 100"), "contract(0, 1, #)", 0, 100);
    }

    private static void files() {
        Run run = tenHouses("TAGS 0 .. 9");
        range(run, "write(0, #, 1)", 0, 9);
        range(run, "file(0, #, true)", 0, 9);
        range(run, "file(0, #, false)", 0, 9);
        range(run, "restore(0, 0, #)", 0, 9);
        range(tenHouses("bytes of a file"), "write(0, 0, #)", 0, 255);
    }

    private static void harm() {
        for (int k = 2; k <= 6; k++) {
            Run run = new Run("at is no place in a piece, or mask not 0 .. 255").with("code(" + k + ", 6)");
            run.with("house(0, 9)", "house(1, 9)", "contract(0, 1, 9)").segmentOf(0, 1).segmentOf(0, 2)
                    .with("push(0)");
            range(run, "harm(1, 0, 0, #, 1)", 0, 60 / k - 1);
            range(run, "harm(1, 0, 0, #, 0)", 0, 60 / k - 1);
            range(run, "harm(1, 0, 1, 0, #)", 0, 255);
            range(run, "harm(1, 0, #, 0, 1)", 0, 1);
            range(run, "harm(1, 0, #, 0, 0)", 0, 1);
        }
    }

    private static void pieces() {
        Run run = tenHouses("no such segment or piece");
        range(run, "sample(0, #, 0)", 0, 1);
        range(run, "sample(0, 0, #)", 0, 2);
        range(run, "health(9, #)", 0, 1);
        range(run, "keeper(9, #, 0)", 0, 1);
        range(run, "keeper(9, 0, #)", 0, 2);
        for (int n = 2; n <= 12; n++) {
            Run other = new Run("piece j, 0 .. N - 1").with("code(2, " + n + ")", "house(4, 9)").segmentOf(4, 1);
            range(other, "keeper(4, 0, #)", 0, n - 1);
            range(other, "sample(4, 0, #)", 0, n - 1);
        }
        Run none = new Run("no such segment, where there is none yet").with("house(0, 9)", "house(1, 9)");
        none.argument("health(0, 0)").argument("keeper(0, 0, 0)").argument("sample(0, 0, 0)");
        none.argument("harm(1, 0, 0, 0, 0)").with("seal(0)").argument("health(0, 0)");
    }

    private static void snapshots() {
        Run run = tenHouses("no such snapshot");
        range(run, "restore(0, #, 0)", 0, 1);
        range(run, "forget(0, #)", 0, 1);
        Run none = new Run("no such snapshot, where there is none yet").with("house(0, 9)");
        none.argument("restore(0, 0, 0)").argument("forget(0, 0)");
    }

    private static void questions() {
        range(tenHouses("what = 0 .. 5"), "count(0, #)", 0, 5);
        Run run = tenHouses("NONE if there is none such").idle("restored(0)", 1).idle("restored(1)", 3);
        for (int i : new int[] {-1, 2, 3, 199, 200, 201, Integer.MIN_VALUE, Integer.MAX_VALUE}) {
            run.idle("restored(" + i + ")", FriendBackup.NONE);
        }
    }

    private static void days() {
        range(new Run("day 0"), "settle(#)", 0, 10000);
        range(tenHouses("it is before the last one, or above 10,000"), "settle(#)", 5, 10000);
        range(tenHouses("the last day of all").with("settle(10000)"), "settle(#)", 10000, 10000);
    }
}
