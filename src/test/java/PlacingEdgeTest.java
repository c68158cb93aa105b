/** The document's 'Terms' from PLACING on: keepers, the book, questions, what is reachable and what is freed. */
final class PlacingEdgeTest {
    private static final int NONE = FriendBackup.NONE;
    private static final int MISMATCH = FriendBackup.MISMATCH;
    private static final int MATCH = FriendBackup.MATCH;
    private static final int SILENT = FriendBackup.SILENT;

    private PlacingEdgeTest() {
    }

    public static void main(String[] args) {
        up();
        notBare();
        notThatHouse();
        room();
        roomOfEachOwner();
        byTheBook();
        fewest();
        fewestAsKept();
        least();
        moreThanFriends();
        book();
        eightQuestions();
        newQuestions();
        answersAsPlaced();
        answersByPlaces();
        reachable();
        freed();
        Check.end();
    }

    /** House 0 and three friends, who keep up to 9 pieces each for it. */
    private static Run friends(String sentence, int n) {
        Run run = new Run(sentence).with("code(2, " + n + ")", "house(0, 40)");
        for (int h = 1; h <= 3; h++) {
            run.with("house(" + h + ", 30)", "contract(0, " + h + ", 9)");
        }
        return run;
    }

    private static void keepersDue(Run run, int segment, int... keepers) {
        for (int j = 0; j < keepers.length; j++) {
            run.due("keeper(0, " + segment + ", " + j + ")", keepers[j]);
        }
    }

    private static void up() {
        Run run = friends("with the house that is UP", 3).with("up(1, false)", "up(3, false)").segmentOf(0, 1);
        keepersDue(run.due("push(0)", 1), 0, 2, NONE, NONE);
        keepersDue(run.with("up(3, true)").due("push(0)", 1), 0, 2, 3, NONE);
        keepersDue(run.idle("push(0)", 0).with("up(1, true)").due("push(0)", 1), 0, 2, 3, 1);
        Run none = friends("none is UP", 3).with("up(1, false)", "up(2, false)", "up(3, false)").segmentOf(0, 1);
        keepersDue(none.idle("push(0)", 0).idle("repair(0)", 0), 0, NONE, NONE, NONE);
    }

    private static void notBare() {
        Run run = friends("not BARE", 3).with("loseDisk(1)", "loseDisk(2)").segmentOf(0, 1).due("push(0)", 1);
        keepersDue(run.with("recover(2)").due("push(0)", 1), 0, 3, 2, NONE);
        keepersDue(run.idle("push(0)", 0).with("recover(1)").due("repair(0)", 1), 0, 3, 2, 1);
    }

    private static void notThatHouse() {
        Run run = friends("not that house", 4).segmentOf(0, 1).due("push(0)", 3).due("stored(0, 0)", 0);
        keepersDue(run.due("count(0, 5)", 0), 0, 1, 2, 3, NONE);
        new Run("not that house, alone").with("house(4, 400)").segmentOf(4, 1).idle("push(4)", 0)
                .idle("repair(4)", 0);
    }

    private static void room() {
        Run run = friends("has room (keeps fewer for it than their LIMIT)", 3)
                .with("contract(0, 1, 1)", "contract(0, 2, 2)");
        run.with("contract(3, 0, 0)").segmentOf(0, 1).segmentOf(0, 2).segmentOf(0, 3).due("push(0)", 3);
        keepersDue(run, 0, 1, 2, NONE);
        keepersDue(run, 1, 2, NONE, NONE);
        keepersDue(run, 2, NONE, NONE, NONE);
        run.idle("push(0)", 0).with("harm(1, 0, 0, 0, 0)").due("push(0)", 1).due("stored(1, 0)", 1);
        keepersDue(run, 1, 2, 1, NONE);
        run.idle("push(0)", 0).with("contract(0, 3, 1)").due("push(0)", 1).with("contract(0, 2, 3)")
                .due("push(0)", 1);
        keepersDue(run, 0, 1, 2, 3);
        keepersDue(run, 2, 2, NONE, NONE);
    }

    private static void roomOfEachOwner() {
        Run run = friends("keeps fewer for it", 3)
                .with("contract(0, 1, 1)", "contract(2, 1, 1)", "contract(3, 1, 1)");
        run.segmentOf(0, 1).segmentOf(2, 1).segmentOf(3, 1).due("push(2)", 2).due("push(3)", 2).due("push(0)", 3);
        run.due("stored(1, 0)", 1).due("stored(1, 2)", 1).due("stored(1, 3)", 1).due("count(1, 5)", 3);
    }

    private static void byTheBook() {
        Run run = friends("keeps no piece of this segment by the owner's book", 4).segmentOf(0, 1).due("push(0)", 3);
        run.idle("push(0)", 0).with("harm(2, 0, 0, 0, 0)", "loseDisk(3)", "recover(3)").idle("push(0)", 0);
        keepersDue(run.segmentOf(0, 2).due("push(0)", 3), 1, 2, 3, 1, NONE);
        keepersDue(run, 0, 1, 2, 3, NONE);
    }

    private static void fewest() {
        Run run = friends("of several the one that keeps the fewest pieces", 1 + 1)
                .with("contract(2, 1, 5)", "contract(3, 1, 5)");
        run.segmentOf(2, 1).segmentOf(3, 1).due("push(2)", 2).due("push(3)", 2).due("count(0, 5)", 2)
                .due("count(1, 5)", 2);
        keepersDue(run.segmentOf(0, 1).due("push(0)", 2), 0, 2, 3);
        keepersDue(run.segmentOf(0, 2).due("push(0)", 2), 1, 2, 3);
        keepersDue(run.segmentOf(0, 3).due("push(0)", 2), 2, 1, 2);
        keepersDue(run.segmentOf(0, 4).due("push(0)", 2), 3, 3, 1);
    }

    private static void fewestAsKept() {
        Run run = friends("that keeps the fewest, not by the book", 2).segmentOf(0, 1).segmentOf(0, 2)
                .due("push(0)", 4);
        keepersDue(run, 0, 1, 2);
        keepersDue(run, 1, 3, 1);
        run.with("harm(1, 0, 0, 0, 0)", "harm(1, 0, 1, 0, 0)").segmentOf(0, 3).due("push(0)", 2);
        keepersDue(run, 2, 1, 2);
    }

    private static void least() {
        Run run = new Run("of these the least").with("code(2, 2)", "house(5, 40)");
        for (int h = 9; h >= 0; h -= 3) {
            run.with("house(" + h + ", 9)", "contract(5, " + h + ", 9)");
        }
        run.segmentOf(5, 1).segmentOf(5, 2).segmentOf(5, 3).due("push(5)", 6).due("keeper(5, 0, 0)", 0);
        run.due("keeper(5, 0, 1)", 3).due("keeper(5, 1, 0)", 6).due("keeper(5, 1, 1)", 9).due("keeper(5, 2, 0)", 0);
    }

    private static void moreThanFriends() {
        Run run = new Run("N 12, and nine others").with("code(6, 12)", "house(0, 90)");
        for (int h = 1; h <= 9; h++) {
            run.with("house(" + h + ", 10)", "contract(0, " + h + ", 10)");
        }
        run.segmentOf(0, 1).due("push(0)", 9).due("health(0, 0)", 9);
        keepersDue(run, 0, 1, 2, 3, 4, 5, 6, 7, 8, 9, NONE, NONE, NONE);
        run.idle("push(0)", 0).idle("repair(0)", 0).idle("sample(0, 0, 11)", NONE);
    }

    private static void book() {
        Run run = friends("The owner's BOOK says where a piece is placed, also if it is not there any more", 3);
        run.segmentOf(0, 1).due("push(0)", 3).with("harm(1, 0, 0, 0, 0)", "loseDisk(2)", "up(3, false)");
        keepersDue(run, 0, 1, 2, 3);
        run.due("stored(1, 0)", 0).due("stored(2, 0)", 0).due("stored(3, 0)", 1).due("health(0, 0)", 0);
        keepersDue(run.with("loseDisk(0)"), 0, 1, 2, 3);
    }

    private static void eightQuestions() {
        Run run = friends("8 QUESTIONS are kept with it, 0 .. 7", 2).segmentOf(0, 1, 2, 3).due("push(0)", 2);
        for (int q = 0; q < 8; q++) {
            run.due("sample(0, 0, 0)", MATCH);
        }
        run.idle("sample(0, 0, 0)", NONE).with("harm(1, 0, 0, 0, 0)").idle("sample(0, 0, 0)", NONE);
        for (int q = 0; q < 8; q++) {
            run.due("sample(0, 0, 1)", q < 4 ? MATCH : SILENT).with(q < 3 ? "up(2, true)" : "up(2, false)");
        }
        run.idle("sample(0, 0, 1)", NONE).with("up(2, true)").idle("sample(0, 0, 1)", NONE);
    }

    private static void newQuestions() {
        Run run = friends("kept with it: anew where it is placed anew", 2).segmentOf(0, 1, 2, 3).due("push(0)", 2);
        for (int q = 0; q < 8; q++) {
            run.with("sample(0, 0, 0)", "sample(0, 0, 1)");
        }
        run.with("harm(1, 0, 0, 0, 9)").due("audit(0)", 1).idle("sample(0, 0, 0)", NONE).due("push(0)", 1);
        for (int q = 0; q < 8; q++) {
            run.due("sample(0, 0, 0)", MATCH);
        }
        run.idle("sample(0, 0, 0)", NONE).idle("sample(0, 0, 1)", NONE).with("loseDisk(0)", "recover(0)");
        run.idle("sample(0, 0, 1)", NONE).with("repair(0)").idle("sample(0, 0, 1)", NONE);
    }

    /** The second piece is harmed, the segment solved by it, and the third one made of that. */
    private static void answersAsPlaced() {
        Run run = friends("the answers of the piece that was placed", 3).segmentOf(0, 1, 2, 3).due("push(0)", 3);
        run.with("harm(3, 0, 0, 0, 0)", "harm(2, 0, 0, 0, 255)", "loseDisk(0)", "recover(0)").due("repair(0)", 1);
        for (int q = 0; q < 8; q++) {
            run.due("sample(0, 0, 2)", MATCH);
        }
        run.due("health(0, 0)", 1).due("sample(0, 0, 1)", MISMATCH).due("audit(0)", 0);
    }

    /** With L = 10, question 0 asks the places 0 .. 4, question 1 the places 7, 9, 1, 3, 5, question 7 begins at 9. */
    private static void answersByPlaces() {
        int[][] asked = {{0, 1, 2, 3, 4}, {7, 9, 1, 3, 5}, {4, 7, 0, 3, 6}, {1, 5, 9, 3, 7}, {8, 3}, {5, 1, 7, 3, 9},
            {2, 9, 6, 3, 0}, {9, 7, 5, 3, 1}};
        for (int at = 0; at < 10; at++) {
            Run run = new Run("byte (7 q + t (1 + q modulo (L - 1))) modulo L, place " + at).with("code(6, 6)");
            run.with("house(0, 9)", "house(1, 9)", "contract(0, 1, 9)").segmentOf(0, 1).with("push(0)");
            run.with("harm(1, 0, 0, " + at + ", 64)");
            for (int[] places : asked) {
                int place = at;
                boolean isAsked = java.util.Arrays.stream(places).anyMatch(p -> p == place);
                run.due("sample(0, 0, 0)", isAsked ? MISMATCH : MATCH);
            }
        }
    }

    private static void reachable() {
        Run run = friends("REACHABLE if it is placed with a house that is UP and has it", 3).segmentOf(0, 5)
                .due("push(0)", 3);
        run.due("health(0, 0)", 3).due("restore(0, 0, 8)", 1).with("up(1, false)").due("health(0, 0)", 2);
        run.due("restore(0, 0, 8)", 1).with("harm(2, 0, 0, 0, 0)").due("health(0, 0)", 1)
                .idle("restore(0, 0, 8)", NONE);
        run.with("up(1, true)").due("health(0, 0)", 2).due("restore(0, 0, 8)", 1).with("loseDisk(1)", "recover(1)");
        run.due("health(0, 0)", 1).idle("restore(0, 0, 8)", NONE).with("up(0, false)").due("health(0, 0)", 1);
        run.with("loseDisk(3)").due("health(0, 0)", 0).with("loseDisk(0)").idle("recover(0)", false);
    }

    private static void freed() {
        Run run = friends("A FREED segment has no pieces", 3).segmentOf(0, 5).segmentOf(0, 6).due("push(0)", 6);
        run.with("up(1, false)", "harm(2, 0, 0, 0, 0)").due("forget(0, 0)", 1).due("stored(1, 0)", 1);
        run.due("stored(2, 0)", 1).due("stored(3, 0)", 1).due("count(1, 5)", 1).due("count(0, 1)", 1);
        run.argument("harm(1, 0, 0, 0, 0)").argument("sample(0, 0, 0)").argument("health(0, 0)");
        run.argument("keeper(0, 0, 0)").idle("audit(0)", 0).idle("push(0)", 0).idle("repair(0)", 0);
        run.due("contract(0, 1, 1)", true).due("forget(0, 1)", 1).due("contract(0, 1, 0)", true)
                .due("count(1, 5)", 0);
    }
}
