/** Promises 16 to 24: restoring, forgetting, and what can be asked. */
final class ReturnTest {
    private static final String TEXT = "another file with the garden wall, and more of the garden path";

    private ReturnTest() {
    }

    public static void main(String[] args) {
        restore();
        restoreTooFew();
        restoreWrong();
        restored();
        forget();
        forgetWithHousesDown();
        health();
        keeper();
        count();
        stored();
        settle();
        balance();
        Check.end();
    }

    private static void restoreText(FriendBackup x, int snapshot, int tag, String text) {
        Check.due("p16 bytes of " + text, x.restore(0, snapshot, tag), text.length());
        Check.due("p17 " + text, Scene.restoredText(x, text.length()).equals(text), true);
        Check.due("p17 behind " + text, x.restored(text.length()), FriendBackup.NONE);
    }

    private static void restore() {
        for (int k = 2; k <= 6; k++) {
            FriendBackup x = Scene.pushed(k, 7, 7, TEXT);
            Scene.write(x, 0, 0, " again");
            x.file(0, 3, true);
            x.seal(0);
            x.push(0);
            restoreText(x, 0, 0, TEXT);
            restoreText(x, 1, 0, TEXT + " again");
            restoreText(x, 1, 3, "");
            for (int h = 1; h <= 7 - k; h++) {
                x.up(h, false);
            }
            restoreText(x, 0, 0, TEXT);
            x.up(1, true);
            x.up(7, false);
            restoreText(x, 0, 0, TEXT);
            x.up(0, false);
            restoreText(x, 0, 0, TEXT);
            x.loseDisk(0);
            x.recover(0);
            restoreText(x, 0, 0, TEXT);
            Check.due("p16 by pieces alone", x.count(0, 2), 0);
        }
    }

    private static void restoreTooFew() {
        FriendBackup x = Scene.friends(4);
        Scene.writeSmallChunks(x, 0, 0, 0, 16);
        x.write(0, 1, 77);
        x.file(0, 2, true);
        x.seal(0);
        Check.due("p16 nothing was placed", x.restore(0, 0, 0), FriendBackup.NONE);
        Check.due("p16 an empty file needs nothing", x.restore(0, 0, 2), 0);
        x.push(0);
        Check.due("p16 the small one", x.restore(0, 0, 1), 1);
        for (int h = 1; h <= 3; h++) {
            x.harm(h, 0, 0, 0, 0);
        }
        Check.due("p16 one of two segments has too few", x.restore(0, 0, 0), FriendBackup.NONE);
        Check.due("p17 what was restored stays", x.restored(0), 77);
        Check.due("p17 and no more", x.restored(1), FriendBackup.NONE);
        Check.due("p16 the other segment is enough for it", x.restore(0, 0, 1), 1);
        x.repair(0);
        Check.due("p16 repaired", x.restore(0, 0, 0), 64);
        Check.due("p17 the last of the second segment", x.restored(60), 15);
    }

    private static void restoreWrong() {
        FriendBackup x = Scene.pushed(2, 4, 4, TEXT);
        x.file(0, 1, true);
        x.seal(0);
        Check.badArgument("p16 no such house", () -> x.restore(5, 0, 0));
        Check.badArgument("p16 snapshot -1", () -> x.restore(0, -1, 0));
        Check.badArgument("p16 snapshot 2", () -> x.restore(0, 2, 0));
        Check.badArgument("p16 tag -1", () -> x.restore(0, 0, -1));
        Check.badArgument("p16 tag 10", () -> x.restore(0, 0, 10));
        Check.badArgument("p16 no file of this tag", () -> x.restore(0, 0, 1));
        x.forget(0, 0);
        Check.badArgument("p16 forgotten", () -> x.restore(0, 0, 0));
        restoreText(x, 1, 0, TEXT);
        x.loseDisk(0);
        Check.badState("p16 bare", () -> x.restore(0, 1, 0));
        Check.badArgument("p16 bare, no such tag", () -> x.restore(0, 1, 2));
        Check.due("p17 what was restored stays", x.restored(0), 'a');
    }

    private static void restored() {
        FriendBackup x = Scene.pushed(2, 4, 4, TEXT);
        Check.due("p17 nothing yet", x.restored(0), FriendBackup.NONE);
        x.restore(0, 0, 0);
        Check.due("p17 -1", x.restored(-1), FriendBackup.NONE);
        Check.due("p17 least", x.restored(Integer.MIN_VALUE), FriendBackup.NONE);
        Check.due("p17 most", x.restored(Integer.MAX_VALUE), FriendBackup.NONE);
        Check.due("p17 first", x.restored(0), 'a');
        x.write(1, 4, 250);
        x.seal(1);
        x.contract(1, 2, 5);
        x.push(1);
        Check.due("p17 of another house", x.restore(1, 0, 4), 1);
        Check.due("p17 its byte", x.restored(0), 250);
        Check.due("p17 no more", x.restored(1), FriendBackup.NONE);
        x.seal(0);
        x.file(0, 5, true);
        x.seal(0);
        Check.due("p17 an empty one", x.restore(0, 2, 5), 0);
        Check.due("p17 has none", x.restored(0), FriendBackup.NONE);
    }

    private static void forget() {
        FriendBackup x = Scene.friends(4);
        Scene.writeSmallChunks(x, 0, 0, 0, 31);
        x.seal(0);
        x.push(0);
        Scene.writeSmallChunks(x, 0, 1, 30, 32);
        x.file(0, 0, false);
        x.seal(0);
        x.push(0);
        Check.badArgument("p18 no such house", () -> x.forget(5, 0));
        Check.badArgument("p18 snapshot -1", () -> x.forget(0, -1));
        Check.badArgument("p18 snapshot 2", () -> x.forget(0, 2));
        Check.due("p18 two of three segments", x.forget(0, 0), 2);
        Check.badArgument("p18 forgotten already", () -> x.forget(0, 0));
        Check.badArgument("p18 freed", () -> x.health(0, 1));
        Check.due("p18 shared, so not freed", x.health(0, 2), 4);
        Check.due("p18 segments ever", x.count(0, 0), 4);
        Check.due("p18 not freed", x.count(0, 1), 2);
        Check.due("p18 held", x.count(0, 2), 2);
        Check.due("p18 snapshots", x.count(0, 3), 1);
        Check.due("p18 chunks", x.count(0, 4), 2);
        Check.due("p18 pieces", x.stored(1, 0), 2);
        Check.due("p18 nothing to push", x.push(0), 0);
        x.loseDisk(0);
        Check.badState("p18 bare", () -> x.forget(0, 1));
        Check.badArgument("p18 bare and forgotten", () -> x.forget(0, 0));
        x.recover(0);
        Check.due("p18 not held", x.forget(0, 1), 2);
        Check.due("p18 no pieces", x.stored(2, 0), 0);
        x.seal(0);
        Check.due("p18 one without files", x.forget(0, 2), 0);
    }

    private static void forgetWithHousesDown() {
        FriendBackup x = Scene.pushed(2, 4, 4, TEXT);
        x.up(1, false);
        x.harm(2, 0, 0, 0, 0);
        x.up(0, false);
        Check.due("p18 two segments", x.forget(0, 0), 2);
        for (int h = 1; h <= 4; h++) {
            Check.due("p18 no pieces with " + h, x.stored(h, 0), 0);
            Check.due("p18 none at all with " + h, x.count(h, 5), 0);
        }
    }

    private static void health() {
        FriendBackup x = Scene.pushed(2, 4, 4, TEXT);
        Check.badArgument("p19 no such house", () -> x.health(5, 0));
        Check.badArgument("p19 segment -1", () -> x.health(0, -1));
        Check.badArgument("p19 segment 2", () -> x.health(0, 2));
        Check.due("p19 all", x.health(0, 0), 4);
        x.up(1, false);
        Check.due("p19 but one down", x.health(0, 0), 3);
        x.harm(2, 0, 0, 0, 0);
        Check.due("p19 but one gone", x.health(0, 0), 2);
        x.harm(3, 0, 0, 15, 128);
        Check.due("p19 but one harmed", x.health(0, 0), 1);
        Check.due("p19 the other segment", x.health(0, 1), 3);
        x.loseDisk(0);
        Check.due("p19 of a bare house", x.health(0, 0), 1);
        FriendBackup y = Scene.friends(1);
        y.write(0, 0, 1);
        y.seal(0);
        Check.due("p19 not placed", y.health(0, 0), 0);
    }

    private static void keeper() {
        FriendBackup x = Scene.pushed(2, 4, 3, TEXT);
        Check.badArgument("p20 no such house", () -> x.keeper(4, 0, 0));
        Check.badArgument("p20 no such segment", () -> x.keeper(0, 2, 0));
        Check.badArgument("p20 piece -1", () -> x.keeper(0, 0, -1));
        Check.badArgument("p20 piece 4", () -> x.keeper(0, 0, 4));
        Check.due("p20 placed", x.keeper(0, 0, 2), 3);
        Check.due("p20 not placed", x.keeper(0, 0, 3), FriendBackup.NONE);
        x.harm(3, 0, 0, 0, 0);
        x.up(3, false);
        Check.due("p20 by the book", x.keeper(0, 0, 2), 3);
        x.loseDisk(0);
        Check.due("p20 of a bare house", x.keeper(0, 0, 2), 3);
        x.recover(0);
        x.forget(0, 0);
        Check.badArgument("p20 freed", () -> x.keeper(0, 0, 0));
    }

    private static void count() {
        FriendBackup x = Scene.friends(4);
        Scene.writeSmallChunks(x, 0, 0, 0, 16);
        x.seal(0);
        x.seal(0);
        x.push(0);
        Check.badArgument("p21 no such house", () -> x.count(5, 0));
        Check.badArgument("p21 what -1", () -> x.count(0, -1));
        Check.badArgument("p21 what 6", () -> x.count(0, 6));
        int[] due = {2, 2, 2, 2, 16, 0};
        for (int what = 0; what < 6; what++) {
            Check.due("p21 what " + what, x.count(0, what), due[what]);
        }
        Check.due("p21 a keeper", x.count(1, 5), 2);
        Check.due("p21 a keeper has no segments", x.count(1, 0), 0);
        x.forget(0, 0);
        x.loseDisk(0);
        int[] bare = {2, 2, 0, 1, 16, 0};
        for (int what = 0; what < 6; what++) {
            Check.due("p21 bare, what " + what, x.count(0, what), bare[what]);
        }
    }

    private static void stored() {
        FriendBackup x = Scene.pushed(2, 4, 4, TEXT);
        Check.badArgument("p22 no such keeper", () -> x.stored(5, 0));
        Check.badArgument("p22 no such owner", () -> x.stored(0, 5));
        Check.badArgument("p22 keeper -1", () -> x.stored(-1, 0));
        Check.badArgument("p22 owner 10", () -> x.stored(0, 10));
        Check.due("p22 two segments", x.stored(1, 0), 2);
        Check.due("p22 not the other way", x.stored(0, 1), 0);
        Check.due("p22 of itself", x.stored(0, 0), 0);
        x.up(1, false);
        Check.due("p22 down", x.stored(1, 0), 2);
        x.harm(1, 0, 1, 0, 0);
        Check.due("p22 one is gone", x.stored(1, 0), 1);
    }

    private static void settle() {
        FriendBackup x = Scene.pushed(2, 4, 4, TEXT);
        x.settle(3);
        Check.badArgument("p23 before the last", () -> x.settle(2));
        Check.badArgument("p23 above 10,000", () -> x.settle(10001));
        x.settle(3);
        Check.due("p23 the same day adds nothing", x.balance(1, 0), 6);
        x.harm(1, 0, 0, 0, 0);
        x.up(1, false);
        x.settle(10);
        Check.due("p23 seven days of one, down too", x.balance(1, 0), 13);
        x.settle(10000);
        Check.due("p23 to the last day", x.balance(1, 0), 13 + 9990);
        x.settle(10000);
        Check.badArgument("p23 never back", () -> x.settle(9999));
    }

    private static void balance() {
        FriendBackup x = Scene.pushed(2, 4, 4, TEXT);
        Check.badArgument("p24 no such first", () -> x.balance(5, 0));
        Check.badArgument("p24 no such second", () -> x.balance(0, 5));
        Check.due("p24 no days", x.balance(1, 0), 0);
        x.write(1, 0, 9);
        x.seal(1);
        x.push(1);
        x.settle(5);
        Check.due("p24 two kept, one given", x.balance(1, 0), 5);
        Check.due("p24 the other way", x.balance(0, 1), -5);
        Check.due("p24 two kept", x.balance(2, 0), 10);
        Check.due("p24 strangers", x.balance(1, 2), 0);
        Check.due("p24 with itself", x.balance(0, 0), 0);
        x.forget(0, 0);
        x.settle(6);
        Check.due("p24 what is kept no more counts no more", x.balance(2, 0), 10);
        Check.due("p24 what is", x.balance(1, 0), 4);
    }
}
