import com.sun.management.ThreadMXBean;
import java.lang.management.ManagementFactory;
import java.util.function.Consumer;

/** The dearest runs of 512 calls make less than the room has: 7.3 million elements, at four bytes each. */
final class RoomTest {
    private static final long MOST_BYTES = 29_200_000;

    private RoomTest() {
    }

    public static void main(String[] args) {
        measure("sealing and forgetting", RoomTest::sealAndForget);
        measure("sealing in vain", RoomTest::sealInVain);
        measure("repairing", RoomTest::repairAgain);
        Check.end();
    }

    private static void measure(String what, Consumer<FriendBackup> run) {
        ThreadMXBean bean = (ThreadMXBean) ManagementFactory.getThreadMXBean();
        run.accept(tenHouses());
        long before = bean.getCurrentThreadAllocatedBytes();
        run.accept(tenHouses());
        long made = bean.getCurrentThreadAllocatedBytes() - before;
        Check.due(what + " makes " + made + " bytes: few", made < MOST_BYTES, true);
    }

    private static FriendBackup tenHouses() {
        FriendBackup x = new FriendBackup();
        x.code(2, 12);
        for (int h = 0; h < 10; h++) {
            x.house(h, 400);
        }
        for (int h = 1; h < 10; h++) {
            x.contract(0, h, 40);
        }
        return x;
    }

    /** As many segments as a run can make: two in each sealing, as long as the house may. */
    private static void sealAndForget(FriendBackup x) {
        for (int h = 0; h < 4; h++) {
            Scene.writeSmallChunks(x, h, 0, 0, 16);
            for (int i = 0; i < 20; i++) {
                x.seal(h);
                x.forget(h, i);
            }
        }
    }

    private static void sealInVain(FriendBackup x) {
        Scene.writeSmallChunks(x, 0, 0, 0, 46);
        for (int i = 0; i < 9; i++) {
            x.seal(0);
            x.forget(0, i);
        }
        Scene.writeSmallChunks(x, 0, 1, 46, 61);
        for (int i = 0; i < 220; i++) {
            x.seal(0);
        }
    }

    private static void repairAgain(FriendBackup x) {
        Scene.writeSmallChunks(x, 0, 0, 0, 50);
        x.seal(0);
        x.push(0);
        for (int i = 0; i < 40; i++) {
            x.loseDisk(1 + i % 9);
            x.recover(1 + i % 9);
            x.loseDisk(0);
            x.recover(0);
            x.repair(0);
            x.audit(0);
            x.restore(0, 0, 0);
        }
    }
}
