import java.util.ArrayList;
import java.util.Arrays;
import java.util.HashSet;
import java.util.List;
import java.util.Map;
import java.util.Set;
import java.util.TreeMap;

/**
 * The document told once more, with the library's lists and maps and nothing kept twice: what a house keeps stands in
 * its disk alone, what the owner believes in its book alone. RandomRunsTest lets the class and this one answer.
 */
public final class PlainModel {
    private record Place(int segment, int offset, int length) {
    }

    private record Key(int owner, int segment) {
    }

    private static final class Copy {
        int number;
        int[] bytes;
    }

    private static final class Entry {
        int keeper;
        int asked;
        int[] answers = new int[8];
    }

    private static final class Household {
        int blocks;
        boolean up = true;
        boolean bare;
        boolean placedOnce;
        Map<Integer, Integer> limits = new TreeMap<>();
        Map<Integer, List<Integer>> folder = new TreeMap<>();
        Map<Key, Copy> disk = new java.util.HashMap<>();
        List<TreeMap<Integer, List<Place>>> snapshots = new ArrayList<>();
        List<int[]> sealed = new ArrayList<>();
        Set<Integer> freed = new HashSet<>();
        Map<Integer, int[]> held = new TreeMap<>();
        Map<Integer, TreeMap<Integer, Entry>> book = new TreeMap<>();
    }

    private final Map<Integer, Household> all = new TreeMap<>();
    private final Map<String, Integer> days = new TreeMap<>();
    private int k = 2;
    private int n = 4;
    private int day = 0;
    private boolean anySealed = false;
    private int[] last = new int[0];

    private static void argument(boolean holds) {
        if (!holds) {
            throw new IllegalArgumentException();
        }
    }

    private static void state(boolean holds) {
        if (!holds) {
            throw new IllegalStateException();
        }
    }

    private Household at(int h) {
        argument(all.containsKey(h));
        return all.get(h);
    }

    private static void segmentIs(Household house, int s) {
        argument(s >= 0 && s < house.sealed.size() && !house.freed.contains(s));
    }

    private static TreeMap<Integer, List<Place>> snapshotAt(Household house, int s) {
        argument(s >= 0 && s < house.snapshots.size() && house.snapshots.get(s) != null);
        return house.snapshots.get(s);
    }

    public void code(int newK, int newN) {
        argument(newK >= 2 && newK <= 6 && newN >= newK && newN <= 12);
        state(!anySealed);
        k = newK;
        n = newN;
    }

    public void house(int h, int blocks) {
        argument(h >= 0 && h <= 9 && blocks >= 1 && blocks <= 400);
        state(!all.containsKey(h));
        Household house = new Household();
        house.blocks = blocks;
        all.put(h, house);
    }

    public boolean contract(int a, int b, int limit) {
        Household one = at(a);
        Household other = at(b);
        argument(a != b && limit >= 0 && limit <= 100);
        if (stored(a, b) > limit || stored(b, a) > limit) {
            return false;
        }
        if (limitsBut(one, b) + limit > one.blocks || limitsBut(other, a) + limit > other.blocks) {
            return false;
        }
        one.limits.put(b, limit);
        other.limits.put(a, limit);
        return true;
    }

    private static int limitsBut(Household house, int but) {
        return house.limits.entrySet().stream().filter(e -> e.getKey() != but).mapToInt(Map.Entry::getValue).sum();
    }

    public int write(int h, int tag, int b) {
        Household house = at(h);
        argument(tag >= 0 && tag <= 9 && b >= 0 && b <= 255);
        state(!house.bare && (!house.folder.containsKey(tag) || house.folder.get(tag).size() < 200));
        house.folder.computeIfAbsent(tag, t -> new ArrayList<>()).add(b);
        return house.folder.get(tag).size();
    }

    public boolean file(int h, int tag, boolean is) {
        Household house = at(h);
        argument(tag >= 0 && tag <= 9);
        state(!house.bare);
        boolean was = house.folder.remove(tag) != null;
        if (is) {
            house.folder.put(tag, new ArrayList<>());
        }
        return was;
    }

    private static List<int[]> cut(List<Integer> bytes) {
        List<int[]> chunks = new ArrayList<>();
        List<Integer> chunk = new ArrayList<>();
        for (int b : bytes) {
            chunk.add(b);
            int m = chunk.size();
            boolean ends = m == 16;
            if (m >= 4) {
                ends |= (b + 3 * chunk.get(m - 2) + 5 * chunk.get(m - 3) + 7 * chunk.get(m - 4)) % 11 == 0;
            }
            if (ends) {
                chunks.add(chunk.stream().mapToInt(i -> i).toArray());
                chunk.clear();
            }
        }
        if (!chunk.isEmpty()) {
            chunks.add(chunk.stream().mapToInt(i -> i).toArray());
        }
        return chunks;
    }

    private static Set<Place> places(Household house) {
        Set<Place> places = new HashSet<>();
        for (TreeMap<Integer, List<Place>> snapshot : house.snapshots) {
            if (snapshot != null) {
                snapshot.values().forEach(places::addAll);
            }
        }
        return places;
    }

    public int seal(int h) {
        Household house = at(h);
        state(!house.bare);
        if (count(h, 3) == 6 || house.snapshots.size() == 30) {
            return -1;
        }
        Set<Place> known = places(house);
        List<int[]> sealed = new ArrayList<>(house.sealed);
        int hand = -1;
        int used = 0;
        TreeMap<Integer, List<Place>> snapshot = new TreeMap<>();
        for (int tag : house.folder.keySet()) {
            List<Place> list = new ArrayList<>();
            for (int[] chunk : cut(house.folder.get(tag))) {
                Place found = find(known, sealed, chunk);
                if (found == null) {
                    if (hand == -1 || used + chunk.length > 60) {
                        hand = sealed.size();
                        used = 0;
                        sealed.add(new int[60]);
                    }
                    System.arraycopy(chunk, 0, sealed.get(hand), used, chunk.length);
                    found = new Place(hand, used, chunk.length);
                    used += chunk.length;
                    known.add(found);
                }
                list.add(found);
            }
            snapshot.put(tag, list);
        }
        if (sealed.size() > 40) {
            return -1;
        }
        for (int s = house.sealed.size(); s < sealed.size(); s++) {
            house.held.put(s, sealed.get(s));
            house.book.put(s, new TreeMap<>());
        }
        house.sealed = sealed;
        house.snapshots.add(snapshot);
        anySealed = true;
        return house.snapshots.size() - 1;
    }

    private static Place find(Set<Place> known, List<int[]> sealed, int[] chunk) {
        for (Place place : known) {
            int[] bytes = sealed.get(place.segment());
            if (Arrays.equals(Arrays.copyOfRange(bytes, place.offset(), place.offset() + place.length()), chunk)) {
                return place;
            }
        }
        return null;
    }

    private int placeAll(int h, int s) {
        Household house = all.get(h);
        int placed = 0;
        for (int j = 0; j < n; j++) {
            if (house.book.get(s).containsKey(j)) {
                continue;
            }
            int best = -1;
            for (int c : all.keySet()) {
                Household other = all.get(c);
                boolean hasOne = house.book.get(s).values().stream().anyMatch(e -> e.keeper == c);
                boolean room = stored(c, h) < other.limits.getOrDefault(h, 0);
                if (c != h && other.up && !other.bare && room && !hasOne
                        && (best == -1 || other.disk.size() < all.get(best).disk.size())) {
                    best = c;
                }
            }
            if (best != -1) {
                put(h, s, j, best);
                placed++;
            }
        }
        return placed;
    }

    private void put(int h, int s, int j, int keeper) {
        Household house = all.get(h);
        Copy copy = new Copy();
        copy.number = j;
        copy.bytes = PlainField.piece(house.held.get(s), k, j);
        all.get(keeper).disk.put(new Key(h, s), copy);
        Entry entry = new Entry();
        entry.keeper = keeper;
        for (int q = 0; q < 8; q++) {
            entry.answers[q] = PlainField.answer(copy.bytes, q);
        }
        house.book.get(s).put(j, entry);
        house.placedOnce = true;
    }

    public int push(int h) {
        Household house = at(h);
        state(!house.bare && house.up);
        int placed = 0;
        for (int s : house.held.keySet()) {
            placed += placeAll(h, s);
        }
        return placed;
    }

    public boolean up(int h, boolean is) {
        boolean was = at(h).up;
        at(h).up = is;
        return was;
    }

    public void loseDisk(int h) {
        Household house = at(h);
        house.disk.clear();
        house.folder.clear();
        house.held.clear();
        house.bare = true;
    }

    public boolean harm(int keeper, int owner, int segment, int at, int mask) {
        Household keeping = at(keeper);
        segmentIs(at(owner), segment);
        argument(at >= 0 && at < 60 / k && mask >= 0 && mask <= 255);
        Key key = new Key(owner, segment);
        if (!keeping.disk.containsKey(key)) {
            return false;
        }
        if (mask == 0) {
            keeping.disk.remove(key);
        } else {
            keeping.disk.get(key).bytes[at] ^= mask;
        }
        return true;
    }

    /** The bytes of a piece that is reachable, or null. */
    private int[] reached(int h, int s, int j) {
        Entry entry = all.get(h).book.get(s).get(j);
        if (entry == null || !all.get(entry.keeper).up) {
            return null;
        }
        Copy copy = all.get(entry.keeper).disk.get(new Key(h, s));
        if (copy != null && copy.number != j) {
            throw new AssertionError("a piece of another number");
        }
        return copy == null ? null : copy.bytes;
    }

    private int[] solved(int h, int s) {
        int[] numbers = new int[k];
        int[][] pieces = new int[k][];
        int found = 0;
        for (int j = 0; j < n && found < k; j++) {
            if (reached(h, s, j) != null) {
                numbers[found] = j;
                pieces[found++] = reached(h, s, j);
            }
        }
        return found < k ? null : PlainField.solve(numbers, pieces);
    }

    public boolean recover(int h) {
        Household house = at(h);
        boolean reachable = false;
        for (int s : house.book.keySet()) {
            for (int j = 0; j < n; j++) {
                reachable |= reached(h, s, j) != null;
            }
        }
        house.bare &= house.placedOnce && !reachable;
        return !house.bare;
    }

    public int sample(int h, int segment, int piece) {
        Household house = at(h);
        segmentIs(house, segment);
        argument(piece >= 0 && piece < n);
        state(!house.bare);
        Entry entry = house.book.get(segment).get(piece);
        if (entry == null || entry.asked == 8) {
            return -1;
        }
        int q = entry.asked++;
        if (!all.get(entry.keeper).up) {
            return 2;
        }
        int[] bytes = reached(h, segment, piece);
        return bytes != null && PlainField.answer(bytes, q) == entry.answers[q] ? 1 : 0;
    }

    public int audit(int h) {
        Household house = at(h);
        state(!house.bare);
        int bad = 0;
        for (int s : house.held.keySet()) {
            for (int j = 0; j < n; j++) {
                Entry entry = house.book.get(s).get(j);
                if (entry != null && all.get(entry.keeper).up
                        && !Arrays.equals(reached(h, s, j), PlainField.piece(house.held.get(s), k, j))) {
                    all.get(entry.keeper).disk.remove(new Key(h, s));
                    house.book.get(s).remove(j);
                    bad++;
                }
            }
        }
        return bad;
    }

    public int repair(int h) {
        Household house = at(h);
        state(!house.bare && house.up);
        int placed = 0;
        for (int s = 0; s < house.sealed.size(); s++) {
            if (house.freed.contains(s)) {
                continue;
            }
            if (!house.held.containsKey(s) && solved(h, s) != null) {
                house.held.put(s, solved(h, s));
            }
            if (house.held.containsKey(s)) {
                for (int j = 0; j < n; j++) {
                    Entry entry = house.book.get(s).get(j);
                    if (entry != null && all.get(entry.keeper).up && reached(h, s, j) == null) {
                        house.book.get(s).remove(j);
                    }
                }
                placed += placeAll(h, s);
            }
        }
        return placed;
    }

    public int restore(int h, int snapshot, int tag) {
        Household house = at(h);
        List<Place> list = snapshotAt(house, snapshot).get(tag);
        argument(list != null);
        state(!house.bare);
        List<Integer> bytes = new ArrayList<>();
        for (Place place : list) {
            int[] segment = solved(h, place.segment());
            if (segment == null) {
                return -1;
            }
            for (int i = 0; i < place.length(); i++) {
                bytes.add(segment[place.offset() + i]);
            }
        }
        last = bytes.stream().mapToInt(i -> i).toArray();
        return last.length;
    }

    public int restored(int i) {
        return i >= 0 && i < last.length ? last[i] : -1;
    }

    public int forget(int h, int snapshot) {
        Household house = at(h);
        snapshotAt(house, snapshot);
        state(!house.bare);
        house.snapshots.set(snapshot, null);
        Set<Integer> needed = new HashSet<>();
        places(house).forEach(place -> needed.add(place.segment()));
        int freed = 0;
        for (int s = 0; s < house.sealed.size(); s++) {
            if (!needed.contains(s) && house.freed.add(s)) {
                house.held.remove(s);
                house.book.get(s).clear();
                for (Household other : all.values()) {
                    other.disk.remove(new Key(h, s));
                }
                freed++;
            }
        }
        return freed;
    }

    public int health(int h, int segment) {
        Household house = at(h);
        segmentIs(house, segment);
        int sound = 0;
        for (int j = 0; j < n; j++) {
            if (Arrays.equals(reached(h, segment, j), PlainField.piece(house.sealed.get(segment), k, j))) {
                sound++;
            }
        }
        return sound;
    }

    public int keeper(int h, int segment, int piece) {
        Household house = at(h);
        segmentIs(house, segment);
        argument(piece >= 0 && piece < n);
        Entry entry = house.book.get(segment).get(piece);
        return entry == null ? -1 : entry.keeper;
    }

    public int count(int h, int what) {
        Household house = at(h);
        argument(what >= 0 && what <= 5);
        int[] counts = {
            house.sealed.size(),
            house.sealed.size() - house.freed.size(),
            house.held.size(),
            (int) house.snapshots.stream().filter(s -> s != null).count(),
            places(house).size(),
            house.disk.size()
        };
        return counts[what];
    }

    public int stored(int keeper, int owner) {
        at(owner);
        return (int) at(keeper).disk.keySet().stream().filter(key -> key.owner() == owner).count();
    }

    public void settle(int newDay) {
        argument(newDay >= day && newDay <= 10000);
        for (int a : all.keySet()) {
            for (int b : all.keySet()) {
                days.merge(a + " for " + b, (newDay - day) * stored(a, b), Integer::sum);
            }
        }
        day = newDay;
    }

    public int balance(int a, int b) {
        at(a);
        at(b);
        return days.getOrDefault(a + " for " + b, 0) - days.getOrDefault(b + " for " + a, 0);
    }
}
