/** Promises 9 to 15: houses that go and come, losses, samples, audits and repairs. */
final class LossTest {
    private static final String TEXT = "the garden gate, the garden wall";

    private LossTest() {
    }

    public static void main(String[] args) {
        up();
        loseDisk();
        harm();
        recover();
        recoverNeverPlaced();
        sample();
        sampleWrong();
        audit();
        auditOfSolvedByHarmed();
        repair();
        repairOrder();
        repairWrong();
        Check.end();
    }

    private static void up() {
        FriendBackup x = Scene.pushed(2, 4, 4, TEXT);
        Check.badArgument("p9 no such house", () -> x.up(5, true));
        Check.badArgument("p9 house 10", () -> x.up(10, true));
        Check.due("p9 was up", x.up(1, true), true);
        Check.due("p9 was up, goes down", x.up(1, false), true);
        Check.due("p9 was down", x.up(1, false), false);
        Check.due("p9 a piece less is reachable", x.health(0, 0), 3);
        Check.due("p9 it is kept all the same", x.stored(1, 0), 1);
        Check.due("p9 was down, comes up", x.up(1, true), false);
        Check.due("p9 all are reachable", x.health(0, 0), 4);
    }

    private static void loseDisk() {
        FriendBackup x = Scene.pushed(2, 4, 4, TEXT);
        x.write(1, 2, 7);
        x.seal(1);
        Check.due("p10 a friend's piece with us", x.push(1), 1);
        Check.badArgument("p10 no such house", () -> x.loseDisk(5));
        x.loseDisk(1);
        Check.due("p10 keeps no pieces", x.count(1, 5), 0);
        Check.due("p10 none of ours", x.stored(1, 0), 0);
        Check.due("p10 holds no segments", x.count(1, 2), 0);
        Check.due("p10 which are not freed", x.count(1, 1), 1);
        Check.due("p10 our book says it", x.keeper(0, 0, 0), 1);
        Check.due("p10 but it is not reachable", x.health(0, 0), 3);
        Check.badState("p10 bare", () -> x.write(1, 2, 7));
        Check.due("p10 it is as up as before", x.up(1, true), true);
        Check.due("p10 its piece is with us", x.stored(0, 1), 1);
        Check.due("p10 it recovers by it", x.recover(1), true);
        Check.due("p10 without files", x.file(1, 2, true), false);
        Check.due("p10 and without segments held", x.count(1, 2), 0);
        x.loseDisk(1);
        x.loseDisk(1);
        Check.due("p10 twice", x.count(1, 3), 1);
        Check.due("p10 ours is held", x.count(0, 2), 1);
    }

    private static void harm() {
        FriendBackup x = Scene.pushed(3, 4, 5, TEXT);
        Check.badArgument("p11 no such keeper", () -> x.harm(6, 0, 0, 0, 1));
        Check.badArgument("p11 no such owner", () -> x.harm(1, 6, 0, 0, 1));
        Check.badArgument("p11 no such segment", () -> x.harm(1, 0, 1, 0, 1));
        Check.badArgument("p11 place -1", () -> x.harm(1, 0, 0, -1, 1));
        Check.badArgument("p11 place 20 of 20", () -> x.harm(1, 0, 0, 20, 1));
        Check.badArgument("p11 no place, mask 0", () -> x.harm(1, 0, 0, 20, 0));
        Check.badArgument("p11 mask -1", () -> x.harm(1, 0, 0, 0, -1));
        Check.badArgument("p11 mask 256", () -> x.harm(1, 0, 0, 0, 256));
        Check.due("p11 a house without a piece", x.harm(5, 0, 0, 0, 1), false);
        Check.due("p11 the owner itself", x.harm(0, 0, 0, 0, 1), false);
        Check.due("p11 the last place", x.harm(1, 0, 0, 19, 255), true);
        Check.due("p11 one is not sound", x.health(0, 0), 3);
        Check.due("p11 the same again", x.harm(1, 0, 0, 19, 255), true);
        Check.due("p11 makes it sound", x.health(0, 0), 4);
        x.up(2, false);
        Check.due("p11 gone with a house that is down", x.harm(2, 0, 0, 0, 0), true);
        Check.due("p11 it keeps none", x.stored(2, 0), 0);
        Check.due("p11 none to be harmed", x.harm(2, 0, 0, 0, 1), false);
        Check.due("p11 the book says it is there", x.keeper(0, 0, 1), 2);
        x.loseDisk(0);
        Check.due("p11 of a bare owner", x.harm(3, 0, 0, 0, 1), true);
        FriendBackup freed = Scene.pushed(2, 4, 4, TEXT);
        freed.forget(0, 0);
        Check.badArgument("p11 a freed segment", () -> freed.harm(1, 0, 0, 0, 1));
    }

    private static void recover() {
        FriendBackup x = Scene.pushed(2, 4, 4, TEXT);
        Check.badArgument("p12 no such house", () -> x.recover(5));
        Check.due("p12 one that is not bare", x.recover(0), true);
        Check.due("p12 holds what it held", x.count(0, 2), 1);
        x.loseDisk(0);
        for (int h = 1; h <= 4; h++) {
            x.up(h, false);
        }
        Check.due("p12 no piece is reachable", x.recover(0), false);
        Check.badState("p12 still bare", () -> x.audit(0));
        x.up(4, true);
        x.harm(4, 0, 0, 0, 0);
        Check.due("p12 a house up without its piece", x.recover(0), false);
        x.up(3, true);
        x.harm(3, 0, 0, 5, 9);
        x.up(0, false);
        Check.due("p12 one piece, harmed, is enough", x.recover(0), true);
        Check.due("p12 the book again", x.keeper(0, 0, 0), 1);
        Check.due("p12 the snapshots again", x.count(0, 3), 1);
        Check.due("p12 held none", x.count(0, 2), 0);
        Check.due("p12 not bare", x.file(0, 0, false), false);
    }

    private static void recoverNeverPlaced() {
        FriendBackup x = Scene.friends(1);
        x.write(0, 0, 1);
        x.seal(0);
        x.loseDisk(0);
        Check.due("p12 never placed one", x.recover(0), true);
        x.write(0, 1, 2);
        x.seal(0);
        Check.due("p12 places one", x.push(0), 1);
        x.forget(0, 1);
        x.loseDisk(0);
        Check.due("p12 placed one that was freed", x.recover(0), false);
    }

    private static void sample() {
        FriendBackup x = Scene.pushed(2, 4, 3, TEXT);
        Check.due("p13 one not placed", x.sample(0, 0, 3), FriendBackup.NONE);
        Check.due("p13 the first", x.sample(0, 0, 0), FriendBackup.MATCH);
        x.up(1, false);
        Check.due("p13 down", x.sample(0, 0, 0), FriendBackup.SILENT);
        x.harm(1, 0, 0, 0, 0);
        Check.due("p13 down and gone", x.sample(0, 0, 0), FriendBackup.SILENT);
        x.up(1, true);
        for (int q = 3; q < 8; q++) {
            Check.due("p13 gone, question " + q, x.sample(0, 0, 0), FriendBackup.MISMATCH);
        }
        Check.due("p13 all were asked", x.sample(0, 0, 0), FriendBackup.NONE);
        x.up(1, false);
        Check.due("p13 all were asked, down", x.sample(0, 0, 0), FriendBackup.NONE);
        Check.due("p13 each piece has its own", x.sample(0, 0, 1), FriendBackup.MATCH);
        x.up(1, true);
        Check.due("p13 placed anew", x.repair(0), 1);
        for (int q = 0; q < 8; q++) {
            Check.due("p13 has new questions, " + q, x.sample(0, 0, 0), FriendBackup.MATCH);
        }
        Check.due("p13 eight", x.sample(0, 0, 0), FriendBackup.NONE);
        x.up(0, false);
        Check.due("p13 an owner that is down", x.sample(0, 0, 1), FriendBackup.MATCH);
        x.loseDisk(0);
        x.recover(0);
        Check.due("p13 without the segment", x.sample(0, 0, 1), FriendBackup.MATCH);
    }

    private static void sampleWrong() {
        FriendBackup x = Scene.pushed(2, 4, 4, TEXT);
        Check.badArgument("p13 no such house", () -> x.sample(5, 0, 0));
        Check.badArgument("p13 no such segment", () -> x.sample(0, 1, 0));
        Check.badArgument("p13 segment -1", () -> x.sample(0, -1, 0));
        Check.badArgument("p13 piece -1", () -> x.sample(0, 0, -1));
        Check.badArgument("p13 piece 4", () -> x.sample(0, 0, 4));
        x.loseDisk(0);
        Check.badState("p13 bare", () -> x.sample(0, 0, 0));
        Check.badArgument("p13 bare, piece 4", () -> x.sample(0, 0, 4));
        x.recover(0);
        x.forget(0, 0);
        Check.badArgument("p13 a freed segment", () -> x.sample(0, 0, 0));
    }

    private static void audit() {
        FriendBackup x = Scene.pushed(2, 4, 5, TEXT);
        Check.badArgument("p14 no such house", () -> x.audit(6));
        Check.due("p14 all are sound", x.audit(0), 0);
        x.harm(1, 0, 0, 29, 1);
        x.harm(2, 0, 0, 0, 0);
        x.harm(3, 0, 0, 0, 1);
        x.up(3, false);
        x.up(0, false);
        Check.due("p14 one harmed, one gone, one with a house down", x.audit(0), 2);
        Check.due("p14 the harmed one is not placed", x.keeper(0, 0, 0), FriendBackup.NONE);
        Check.due("p14 and gone there", x.stored(1, 0), 0);
        Check.due("p14 the gone one is not placed", x.keeper(0, 0, 1), FriendBackup.NONE);
        Check.due("p14 none there", x.stored(2, 0), 0);
        Check.due("p14 the one with the house down is", x.keeper(0, 0, 2), 3);
        x.up(3, true);
        Check.due("p14 until it is up", x.audit(0), 1);
        Check.due("p14 the last", x.keeper(0, 0, 3), 4);
        x.harm(4, 0, 0, 7, 7);
        x.loseDisk(0);
        Check.badState("p14 bare", () -> x.audit(0));
        x.recover(0);
        Check.due("p14 only segments held", x.audit(0), 0);
        Check.due("p14 so it stays", x.keeper(0, 0, 3), 4);
    }

    private static void auditOfSolvedByHarmed() {
        FriendBackup x = Scene.pushed(2, 4, 5, TEXT);
        x.harm(1, 0, 0, 4, 3);
        x.loseDisk(0);
        x.recover(0);
        Check.due("p15 all are placed", x.repair(0), 0);
        Check.due("p15 held again", x.count(0, 2), 1);
        Check.due("p14 others than the segment held gives", x.audit(0), 2);
        Check.due("p14 the first was used", x.keeper(0, 0, 0), 1);
        Check.due("p14 the second too", x.keeper(0, 0, 1), 2);
        Check.due("p14 the third was not", x.keeper(0, 0, 2), FriendBackup.NONE);
        Check.due("p8 pieces of what is held", x.push(0), 2);
        Check.due("p14 all are like it now", x.audit(0), 0);
        Check.due("p13 and answer as placed", x.sample(0, 0, 3), FriendBackup.MATCH);
        Check.due("p19 but only one as sealed", x.health(0, 0), 1);
    }

    private static void repair() {
        FriendBackup x = Scene.pushed(3, 5, 6, TEXT);
        x.up(0, true);
        Check.due("p15 nothing is missing", x.repair(0), 0);
        x.harm(1, 0, 0, 0, 0);
        x.harm(2, 0, 0, 0, 0);
        x.up(2, false);
        x.harm(3, 0, 0, 1, 1);
        Check.due("p15 one gone with a house up", x.repair(0), 1);
        Check.due("p15 placed where the fewest are kept", x.keeper(0, 0, 0), 1);
        Check.due("p15 the house down is waited for", x.keeper(0, 0, 1), 2);
        Check.due("p15 the harmed one is not seen", x.health(0, 0), 3);
        x.audit(0);
        Check.due("p15 until audited", x.repair(0), 1);
        Check.due("p15 four are sound", x.health(0, 0), 4);
        x.loseDisk(0);
        x.recover(0);
        x.up(1, false);
        x.up(3, false);
        Check.due("p15 two of three", x.repair(0), 0);
        Check.due("p15 are too few", x.count(0, 2), 0);
        x.up(3, true);
        Check.due("p15 three", x.repair(0), 0);
        Check.due("p15 are enough", x.count(0, 2), 1);
        x.up(2, true);
        Check.due("p15 the one gone there", x.repair(0), 1);
        x.up(1, true);
        Check.due("p15 all as sealed", x.health(0, 0), 5);
    }

    private static void repairOrder() {
        FriendBackup x = Scene.friends(4);
        Scene.writeSmallChunks(x, 0, 0, 0, 16);
        x.seal(0);
        for (int h = 1; h <= 4; h++) {
            x.contract(0, h, 1);
        }
        Check.due("p8 the first segment has the room", x.push(0), 4);
        x.harm(3, 0, 0, 0, 0);
        x.harm(2, 0, 0, 0, 0);
        Check.due("p15 it is repaired first", x.repair(0), 2);
        Check.due("p15 its pieces by number", x.keeper(0, 0, 1), 2);
        Check.due("p15 to the least of equals", x.keeper(0, 0, 2), 3);
        Check.due("p15 nothing of the second", x.keeper(0, 1, 0), FriendBackup.NONE);
        x.contract(0, 4, 2);
        Check.due("p15 never placed before", x.repair(0), 1);
        Check.due("p15 its first piece", x.keeper(0, 1, 0), 4);
        x.forget(0, 0);
        Check.due("p15 freed segments are none", x.repair(0), 0);
    }

    private static void repairWrong() {
        FriendBackup x = Scene.pushed(2, 4, 4, TEXT);
        Check.badArgument("p15 no such house", () -> x.repair(5));
        x.up(0, false);
        Check.badState("p15 down", () -> x.repair(0));
        x.up(0, true);
        x.loseDisk(0);
        Check.badState("p15 bare", () -> x.repair(0));
    }
}
