import java.util.ArrayList;
import java.util.HashMap;
import java.util.List;
import java.util.Map;

/** What can be seen of an object's state: each list of calls, on an object of its own, shows one side of it. */
final class Probe {
    private static final Map<List<Integer>, List<List<Call>>> KNOWN = new HashMap<>();
    private final List<Call> calls = new ArrayList<>();

    private Probe() {
    }

    static List<List<Call>> of(List<Integer> houses) {
        return KNOWN.computeIfAbsent(houses, Probe::made);
    }

    private static List<List<Call>> made(List<Integer> houses) {
        List<List<Call>> probes = new ArrayList<>();
        probes.add(bytesRestored());
        probes.add(days(houses));
        probes.add(ruin(houses));
        for (int i = 0; i < houses.size(); i++) {
            int h = houses.get(i);
            probes.add(looks(h, houses));
            probes.add(files(h));
            probes.add(folder(h, houses));
            probes.add(snapshots(h, houses));
            probes.add(oblivion(h, houses));
            probes.add(questions(h));
            probes.add(care(h, houses));
            probes.add(loss(h, houses));
            probes.add(limits(h, houses.get((i + 1) % houses.size())));
        }
        probes.add(newHouses());
        probes.add(code(houses, "code(4, 13)"));
        probes.add(code(houses, "code(4, 7)"));
        return probes;
    }

    private void add(String name, Object... arguments) {
        StringBuilder text = new StringBuilder(name).append('(');
        for (int i = 0; i < arguments.length; i++) {
            text.append(i == 0 ? "" : ", ").append(arguments[i]);
        }
        calls.add(Call.of(text.append(')').toString()));
    }

    private void addCounts(int h) {
        for (int what = 0; what < 6; what++) {
            add("count", h, what);
        }
    }

    private void addSegments(int h) {
        for (int segment = 0; segment < 4; segment++) {
            add("health", h, segment);
            for (int piece = 0; piece < 5; piece++) {
                add("keeper", h, segment, piece);
            }
        }
    }

    private void wake(List<Integer> houses) {
        for (int h : houses) {
            add("up", h, true);
        }
    }

    private static List<Call> days(List<Integer> houses) {
        Probe probe = new Probe();
        for (int day = 0; day < 12; day++) {
            probe.add("settle", day);
        }
        probe.add("settle", 9999);
        probe.add("settle", 10000);
        for (int a : houses) {
            for (int b : houses) {
                probe.add("balance", a, b);
            }
        }
        return probe.calls;
    }

    private static List<Call> looks(int h, List<Integer> houses) {
        Probe probe = new Probe();
        probe.addCounts(h);
        probe.addSegments(h);
        for (int other : houses) {
            probe.add("stored", h, other);
            probe.add("balance", h, other);
        }
        probe.add("up", h, true);
        probe.add("recover", h);
        return probe.calls;
    }

    private static List<Call> bytesRestored() {
        Probe probe = new Probe();
        for (int i = -1; i <= 200; i++) {
            probe.add("restored", i);
        }
        return probe.calls;
    }

    private static List<Call> files(int h) {
        Probe probe = new Probe();
        probe.add("recover", h);
        for (int tag = 0; tag < 10; tag++) {
            probe.add("file", h, tag, false);
        }
        return probe.calls;
    }

    private static List<Call> folder(int h, List<Integer> houses) {
        Probe probe = new Probe();
        probe.wake(houses);
        probe.add("recover", h);
        for (int tag = 0; tag < 10; tag++) {
            probe.add("write", h, tag, 1);
        }
        probe.add("seal", h);
        probe.add("push", h);
        probe.addCounts(h);
        for (int snapshot = 0; snapshot < 4; snapshot++) {
            for (int tag = 0; tag < 10; tag += 4) {
                probe.add("restore", h, snapshot, tag);
                probe.add("restored", 0);
                probe.add("restored", 5);
            }
        }
        return probe.calls;
    }

    private static List<Call> snapshots(int h, List<Integer> houses) {
        Probe probe = new Probe();
        probe.wake(houses);
        probe.add("recover", h);
        probe.add("seal", h);
        for (int snapshot = 0; snapshot < 8; snapshot++) {
            probe.add("restore", h, snapshot, 0);
            probe.add("forget", h, snapshot);
            probe.add("count", h, 1);
            probe.add("count", h, 4);
            probe.add("seal", h);
        }
        return probe.calls;
    }

    private static List<Call> oblivion(int h, List<Integer> houses) {
        Probe probe = new Probe();
        probe.wake(houses);
        probe.add("recover", h);
        for (int snapshot = 0; snapshot < 31; snapshot++) {
            probe.add("forget", h, snapshot);
        }
        probe.addCounts(h);
        probe.add("seal", h);
        probe.addCounts(h);
        return probe.calls;
    }

    private static List<Call> questions(int h) {
        Probe probe = new Probe();
        probe.add("recover", h);
        for (int segment = 0; segment < 3; segment++) {
            for (int piece = 0; piece < 4; piece++) {
                for (int question = 0; question < 9; question++) {
                    probe.add("sample", h, segment, piece);
                }
            }
        }
        return probe.calls;
    }

    private static List<Call> care(int h, List<Integer> houses) {
        Probe probe = new Probe();
        probe.add("audit", h);
        probe.add("push", h);
        probe.add("repair", h);
        probe.addCounts(h);
        probe.wake(houses);
        probe.add("recover", h);
        probe.add("repair", h);
        probe.add("audit", h);
        probe.addSegments(h);
        for (int other : houses) {
            probe.add("count", other, 5);
        }
        return probe.calls;
    }

    private static List<Call> loss(int h, List<Integer> houses) {
        Probe probe = new Probe();
        probe.add("loseDisk", h);
        probe.add("recover", h);
        probe.wake(houses);
        probe.add("recover", h);
        probe.addCounts(h);
        probe.add("repair", h);
        probe.addCounts(h);
        probe.addSegments(h);
        return probe.calls;
    }

    /** With all disks lost, only those who never placed a piece recover. */
    private static List<Call> ruin(List<Integer> houses) {
        Probe probe = new Probe();
        for (int h : houses) {
            probe.add("loseDisk", h);
        }
        for (int h : houses) {
            probe.add("recover", h);
        }
        return probe.calls;
    }

    private static List<Call> limits(int a, int b) {
        Probe probe = new Probe();
        for (int limit = 101; limit >= -1; limit--) {
            probe.add("contract", a, b, limit);
        }
        return probe.calls;
    }

    private static List<Call> newHouses() {
        Probe probe = new Probe();
        for (int h = 0; h < 10; h++) {
            probe.add("count", h, 0);
        }
        for (int h = 0; h < 10; h++) {
            probe.add("house", h, 400);
        }
        return probe.calls;
    }

    /** K by the places of a piece, N by the pieces of a segment; behind a code that can be, or can not. */
    private static List<Call> code(List<Integer> houses, String code) {
        Probe probe = new Probe();
        int h = houses.isEmpty() ? 0 : houses.get(houses.size() - 1);
        if (houses.isEmpty()) {
            probe.add("house", h, 10);
        }
        probe.add("up", h, true);
        probe.add("recover", h);
        probe.calls.add(Call.of(code));
        probe.add("file", h, 0, true);
        probe.add("write", h, 0, 7);
        probe.add("seal", h);
        for (int at = 9; at < 31; at++) {
            probe.add("harm", h, h, 0, at, 1);
        }
        for (int segment = 0; segment < 5; segment++) {
            for (int piece = 0; piece < 13; piece++) {
                probe.add("keeper", h, segment, piece);
            }
        }
        return probe.calls;
    }
}
