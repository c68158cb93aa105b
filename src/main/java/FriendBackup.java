import java.util.ArrayList;

/** Households that keep each other's files in coded pieces; the promises are numbered in the document. */
public final class FriendBackup {
    public static final int NONE = -1;
    public static final int MISMATCH = 0;
    public static final int MATCH = 1;
    public static final int SILENT = 2;

    private static final int HOUSES = 10;
    private static final int MAX_BLOCKS = 400;
    private static final int MAX_LIMIT = 100;
    private static final int MIN_K = 2;
    private static final int MAX_K = 6;
    private static final int MAX_N = 12;
    private static final int TAGS = 10;
    private static final int FILE_BYTES = 200;
    private static final int MIN_CHUNK = 4;
    private static final int MAX_CHUNK = 16;
    private static final int CUT_DIVISOR = 11;
    private static final int SEGMENT_BYTES = 60;
    private static final int MAX_PIECE_BYTES = SEGMENT_BYTES / MIN_K;
    private static final int MAX_SEGMENTS = 40;
    private static final int MAX_SNAPSHOTS = 6;
    private static final int MAX_SNAPSHOTS_MADE = 30;
    private static final int QUESTIONS = 8;
    private static final int ANSWER_MODULUS = 65521;
    private static final int MAX_BYTE = 255;
    private static final int FIELD_POLYNOMIAL = 0x11D;
    private static final int COUNTS = 6;
    private static final int MAX_DAY = 10000;

    private final House[] houses;
    private final Coder coder;
    private final Draft draft;
    private final int[] restoredBytes;
    private final int[] solvedBytes;
    private final int[] dueBytes;
    private int restoredLength;
    private boolean anySealed;
    private int lastDay;

    public FriendBackup() {
        houses = new House[HOUSES];
        coder = new Coder();
        draft = new Draft();
        restoredBytes = new int[FILE_BYTES];
        solvedBytes = new int[SEGMENT_BYTES];
        dueBytes = new int[MAX_PIECE_BYTES];
    }

    public void code(int k, int n) throws IllegalArgumentException, IllegalStateException {
        requireArgument(isWithin(k, MIN_K, MAX_K) && isWithin(n, k, MAX_N));
        requireState(!anySealed);
        coder.use(k, n);
    }

    public void house(int h, int blocks) throws IllegalArgumentException, IllegalStateException {
        requireArgument(isWithin(h, 0, HOUSES - 1) && isWithin(blocks, 1, MAX_BLOCKS));
        requireState(houses[h] == null);
        houses[h] = new House(h, blocks);
    }

    public boolean contract(int a, int b, int limit) throws IllegalArgumentException {
        House one = houseOf(a);
        House other = houseOf(b);
        requireArgument(a != b && isWithin(limit, 0, MAX_LIMIT));
        if (!one.canAgree(b, limit) || !other.canAgree(a, limit)) {
            return false;
        }
        one.limits[b] = limit;
        other.limits[a] = limit;
        return true;
    }

    public int write(int h, int tag, int b) throws IllegalArgumentException, IllegalStateException {
        House house = houseOf(h);
        requireArgument(isTag(tag) && isWithin(b, 0, MAX_BYTE));
        requireState(!house.bare && house.lengths[tag] < FILE_BYTES);
        int length = Math.max(house.lengths[tag], 0);
        house.folder[tag][length] = b;
        house.lengths[tag] = length + 1;
        return length + 1;
    }

    public boolean file(int h, int tag, boolean is) throws IllegalArgumentException, IllegalStateException {
        House house = houseOf(h);
        requireArgument(isTag(tag));
        requireState(!house.bare);
        boolean was = house.hasFile(tag);
        house.lengths[tag] = is ? 0 : NONE;
        return was;
    }

    public int seal(int h) throws IllegalArgumentException, IllegalStateException {
        House house = houseOf(h);
        requireState(!house.bare);
        int number = house.snapshots.size();
        if (house.living == MAX_SNAPSHOTS || number >= MAX_SNAPSHOTS_MADE) {
            return NONE;
        }
        int known = house.chunks.size();
        if (!draft.lay(house)) {
            house.dropChunksFrom(known);
            return NONE;
        }
        house.addSegments(draft.segment + 1, coder);
        house.fillSegments(known);
        house.addSnapshot(new Snapshot(draft, house));
        anySealed = true;
        return number;
    }

    public int push(int h) throws IllegalArgumentException, IllegalStateException {
        House house = houseOf(h);
        requireState(!house.bare && house.up);
        int placed = 0;
        for (int s = 0; s < house.segments.size(); s++) {
            Segment segment = house.segments.get(s);
            if (segment.isHeld) {
                placed += placeMissing(house, segment);
            }
        }
        return placed;
    }

    public boolean up(int h, boolean is) throws IllegalArgumentException {
        House house = houseOf(h);
        boolean was = house.up;
        house.up = is;
        return was;
    }

    public void loseDisk(int h) throws IllegalArgumentException {
        House lost = houseOf(h);
        for (int owner = 0; owner < HOUSES; owner++) {
            if (houses[owner] != null) {
                houses[owner].losePiecesWith(h);
            }
            lost.stored[owner] = 0;
        }
        lost.loseOwn();
    }

    public boolean harm(int keeper, int owner, int segment, int at, int mask) throws IllegalArgumentException {
        House keeping = houseOf(keeper);
        Segment harmed = segmentOf(houseOf(owner), segment);
        requireArgument(isWithin(at, 0, coder.length - 1) && isWithin(mask, 0, MAX_BYTE));
        int j = harmed.pieceWith(keeper);
        if (j == NONE || !harmed.pieces[j].there) {
            return false;
        }
        Piece piece = harmed.pieces[j];
        if (mask == 0) {
            piece.there = false;
            keeping.stored[owner]--;
        } else {
            piece.bytes[at] ^= mask;
        }
        return true;
    }

    public boolean recover(int h) throws IllegalArgumentException {
        House house = houseOf(h);
        if (house.bare && (!house.everPlaced || hasReachable(house))) {
            house.bare = false;
        }
        return !house.bare;
    }

    public int sample(int h, int segment, int piece) throws IllegalArgumentException, IllegalStateException {
        House house = houseOf(h);
        Piece questioned = pieceOf(segmentOf(house, segment), piece);
        requireState(!house.bare);
        if (!questioned.isPlaced() || questioned.asked >= QUESTIONS) {
            return NONE;
        }
        int question = questioned.asked;
        questioned.asked++;
        if (!isUp(questioned.keeper)) {
            return SILENT;
        }
        boolean right = questioned.there && coder.answer(questioned.bytes, question) == questioned.answers[question];
        return right ? MATCH : MISMATCH;
    }

    public int audit(int h) throws IllegalArgumentException, IllegalStateException {
        House house = houseOf(h);
        requireState(!house.bare);
        int bad = 0;
        for (int s = 0; s < house.segments.size(); s++) {
            Segment segment = house.segments.get(s);
            if (segment.isHeld) {
                bad += auditSegment(house, segment);
            }
        }
        return bad;
    }

    public int repair(int h) throws IllegalArgumentException, IllegalStateException {
        House house = houseOf(h);
        requireState(!house.bare && house.up);
        int placed = 0;
        for (int s = 0; s < house.segments.size(); s++) {
            Segment segment = house.segments.get(s);
            if (!segment.isHeld && !segment.freed && countReachable(segment) >= coder.k) {
                solve(segment, segment.held);
                segment.isHeld = true;
            }
            if (segment.isHeld) {
                unplaceMissing(segment);
                placed += placeMissing(house, segment);
            }
        }
        return placed;
    }

    public int restore(int h, int snapshot, int tag) throws IllegalArgumentException, IllegalStateException {
        House house = houseOf(h);
        Snapshot from = snapshotOf(house, snapshot);
        requireArgument(isTag(tag) && from.hasFile[tag]);
        requireState(!house.bare);
        if (!canRestore(house, from, tag)) {
            return NONE;
        }
        restoreFile(house, from, tag);
        return restoredLength;
    }

    public int restored(int i) {
        return isWithin(i, 0, restoredLength - 1) ? restoredBytes[i] : NONE;
    }

    public int forget(int h, int snapshot) throws IllegalArgumentException, IllegalStateException {
        House house = houseOf(h);
        Snapshot forgotten = snapshotOf(house, snapshot);
        requireState(!house.bare);
        house.dropSnapshot(forgotten);
        int freed = 0;
        for (int s = 0; s < house.segments.size(); s++) {
            Segment segment = house.segments.get(s);
            if (!segment.freed && segment.chunks == 0) {
                free(house, segment);
                freed++;
            }
        }
        return freed;
    }

    public int health(int h, int segment) throws IllegalArgumentException {
        Segment looked = segmentOf(houseOf(h), segment);
        int sound = 0;
        for (int j = 0; j < looked.pieces.length; j++) {
            Piece piece = looked.pieces[j];
            if (isReachable(piece) && isPieceOf(looked.sealed, j, piece)) {
                sound++;
            }
        }
        return sound;
    }

    public int keeper(int h, int segment, int piece) throws IllegalArgumentException {
        return pieceOf(segmentOf(houseOf(h), segment), piece).keeper;
    }

    public int count(int h, int what) throws IllegalArgumentException {
        House house = houseOf(h);
        requireArgument(isWithin(what, 0, COUNTS - 1));
        switch (what) {
            case 0:
                return house.segments.size();
            case 1:
                return house.countUnfreed();
            case 2:
                return house.countHeld();
            case 3:
                return house.living;
            case 4:
                return house.chunks.size();
            default:
                return house.countKept();
        }
    }

    public int stored(int keeper, int owner) throws IllegalArgumentException {
        House keeping = houseOf(keeper);
        House owning = houseOf(owner);
        return keeping.stored[owning.number];
    }

    public void settle(int day) throws IllegalArgumentException {
        requireArgument(isWithin(day, lastDay, MAX_DAY));
        for (int h = 0; h < HOUSES; h++) {
            if (houses[h] != null) {
                houses[h].addDays(day - lastDay);
            }
        }
        lastDay = day;
    }

    public int balance(int a, int b) throws IllegalArgumentException {
        House one = houseOf(a);
        House other = houseOf(b);
        return one.pieceDays[b] - other.pieceDays[a];
    }

    private static void requireArgument(boolean holds) {
        if (!holds) {
            throw new IllegalArgumentException();
        }
    }

    private static void requireState(boolean holds) {
        if (!holds) {
            throw new IllegalStateException();
        }
    }

    private static boolean isWithin(int x, int least, int most) {
        return x >= least && x <= most;
    }

    private static boolean isTag(int tag) {
        return isWithin(tag, 0, TAGS - 1);
    }

    private House houseOf(int h) {
        House found = isWithin(h, 0, HOUSES - 1) ? houses[h] : null;
        if (found == null) {
            throw new IllegalArgumentException();
        }
        return found;
    }

    private static Segment segmentOf(House house, int number) {
        requireArgument(isWithin(number, 0, house.segments.size() - 1));
        Segment segment = house.segments.get(number);
        requireArgument(!segment.freed);
        return segment;
    }

    private static Piece pieceOf(Segment segment, int number) {
        requireArgument(isWithin(number, 0, segment.pieces.length - 1));
        return segment.pieces[number];
    }

    private static Snapshot snapshotOf(House house, int number) {
        requireArgument(isWithin(number, 0, house.snapshots.size() - 1));
        Snapshot snapshot = house.snapshots.get(number);
        requireArgument(!snapshot.forgotten);
        return snapshot;
    }

    private boolean isUp(int h) {
        return isWithin(h, 0, HOUSES - 1) && houses[h] != null && houses[h].up;
    }

    private boolean isReachable(Piece piece) {
        return piece.there && isUp(piece.keeper);
    }

    private int countReachable(Segment segment) {
        int reachable = 0;
        for (int j = 0; j < segment.pieces.length; j++) {
            if (isReachable(segment.pieces[j])) {
                reachable++;
            }
        }
        return reachable;
    }

    private boolean hasReachable(House house) {
        for (int s = 0; s < house.segments.size(); s++) {
            if (countReachable(house.segments.get(s)) > 0) {
                return true;
            }
        }
        return false;
    }

    private boolean isPieceOf(int[] segmentBytes, int j, Piece piece) {
        coder.encode(segmentBytes, j, dueBytes);
        for (int t = 0; t < piece.bytes.length; t++) {
            if (piece.bytes[t] != dueBytes[t]) {
                return false;
            }
        }
        return true;
    }

    private int placeMissing(House owner, Segment segment) {
        int placed = 0;
        for (int j = 0; j < segment.pieces.length; j++) {
            if (!segment.pieces[j].isPlaced() && place(owner, segment, j)) {
                placed++;
            }
        }
        return placed;
    }

    private boolean place(House owner, Segment segment, int j) {
        House keeping = bestKeeper(owner, segment);
        if (keeping == null) {
            return false;
        }
        Piece piece = segment.pieces[j];
        coder.encode(segment.held, j, piece.bytes);
        coder.answerAll(piece.bytes, piece.answers);
        piece.keeper = keeping.number;
        piece.there = true;
        piece.asked = 0;
        keeping.stored[owner.number]++;
        owner.everPlaced = true;
        return true;
    }

    private House bestKeeper(House owner, Segment segment) {
        House best = null;
        int fewest = 0;
        for (int h = 0; h < HOUSES; h++) {
            House candidate = houses[h];
            if (candidate == null || !candidate.canTakeFrom(owner.number) || segment.pieceWith(h) != NONE) {
                continue;
            }
            int kept = candidate.countKept();
            if (best == null || kept < fewest) {
                best = candidate;
                fewest = kept;
            }
        }
        return best;
    }

    private int auditSegment(House owner, Segment segment) {
        int bad = 0;
        for (int j = 0; j < segment.pieces.length; j++) {
            Piece piece = segment.pieces[j];
            if (isUp(piece.keeper) && !(piece.there && isPieceOf(segment.held, j, piece))) {
                takeBack(owner, piece);
                bad++;
            }
        }
        return bad;
    }

    private void takeBack(House owner, Piece piece) {
        if (piece.there && houses[piece.keeper] != null) {
            houses[piece.keeper].stored[owner.number]--;
        }
        piece.there = false;
        piece.keeper = NONE;
    }

    private void unplaceMissing(Segment segment) {
        for (int j = 0; j < segment.pieces.length; j++) {
            Piece piece = segment.pieces[j];
            if (isUp(piece.keeper) && !piece.there) {
                piece.keeper = NONE;
            }
        }
    }

    private void free(House owner, Segment segment) {
        for (int j = 0; j < segment.pieces.length; j++) {
            takeBack(owner, segment.pieces[j]);
        }
        segment.freed = true;
        segment.isHeld = false;
    }

    private void solve(Segment segment, int[] into) {
        coder.beginSolving();
        for (int j = 0; j < segment.pieces.length; j++) {
            if (isReachable(segment.pieces[j])) {
                coder.take(j, segment.pieces[j].bytes);
            }
        }
        coder.solveInto(into);
    }

    private boolean canRestore(House house, Snapshot snapshot, int tag) {
        for (int c = snapshot.starts[tag]; c < snapshot.starts[tag + 1]; c++) {
            if (countReachable(house.segments.get(snapshot.chunks[c].segment)) < coder.k) {
                return false;
            }
        }
        return true;
    }

    private void restoreFile(House house, Snapshot snapshot, int tag) {
        restoredLength = 0;
        int solved = NONE;
        for (int c = snapshot.starts[tag]; c < snapshot.starts[tag + 1]; c++) {
            Chunk chunk = snapshot.chunks[c];
            if (chunk.segment != solved) {
                solve(house.segments.get(chunk.segment), solvedBytes);
                solved = chunk.segment;
            }
            System.arraycopy(solvedBytes, chunk.offset, restoredBytes, restoredLength, chunk.bytes.length);
            restoredLength += chunk.bytes.length;
        }
    }

    /** THE FIELD, by the powers of x: x makes every number of it but 0. */
    private static final class Field {
        final int[] powers = new int[2 * MAX_BYTE];
        final int[] logs = new int[MAX_BYTE + 1];

        Field() {
            int power = 1;
            for (int e = 0; e < MAX_BYTE; e++) {
                powers[e] = power;
                powers[e + MAX_BYTE] = power;
                logs[power] = e;
                power <<= 1;
                if (power > MAX_BYTE) {
                    power ^= FIELD_POLYNOMIAL;
                }
            }
        }

        int times(int a, int b) {
            return a == 0 || b == 0 ? 0 : powers[logs[a] + logs[b]];
        }

        int inverse(int a) {
            return powers[MAX_BYTE - logs[a]];
        }
    }

    /** THE CODE, and the rows in which a segment is solved. */
    private static final class Coder {
        final Field field = new Field();
        final int[][] factors = new int[MAX_N][MAX_K];
        final int[][] rows = new int[MAX_K][MAX_K + MAX_PIECE_BYTES];
        int k;
        int n;
        int length;
        int taken;

        Coder() {
            for (int j = 0; j < MAX_N; j++) {
                for (int i = 0; i < MAX_K; i++) {
                    factors[j][i] = field.inverse((16 + j) ^ i);
                }
            }
            use(2, 4);
        }

        void use(int newK, int newN) {
            k = newK;
            n = newN;
            length = SEGMENT_BYTES / newK;
        }

        void encode(int[] segmentBytes, int j, int[] into) {
            for (int t = 0; t < length; t++) {
                int sum = 0;
                for (int i = 0; i < k; i++) {
                    sum ^= field.times(factors[j][i], segmentBytes[i * length + t]);
                }
                into[t] = sum;
            }
        }

        void beginSolving() {
            taken = 0;
        }

        /** Pieces beyond the first K are left out, so that those of the least numbers solve. */
        void take(int j, int[] bytes) {
            if (taken >= k) {
                return;
            }
            System.arraycopy(factors[j], 0, rows[taken], 0, k);
            System.arraycopy(bytes, 0, rows[taken], k, length);
            taken++;
        }

        /** No row is 0 on the diagonal when its turn comes: every square part of such factors has an inverse. */
        void solveInto(int[] segmentBytes) {
            for (int i = 0; i < k; i++) {
                scale(rows[i], i);
                for (int r = 0; r < k; r++) {
                    if (r != i) {
                        clearColumn(rows[r], rows[i], i);
                    }
                }
            }
            for (int i = 0; i < k; i++) {
                System.arraycopy(rows[i], k, segmentBytes, i * length, length);
            }
        }

        private void scale(int[] row, int column) {
            int inverse = field.inverse(row[column]);
            for (int c = column; c < k + length; c++) {
                row[c] = field.times(inverse, row[c]);
            }
        }

        private void clearColumn(int[] row, int[] by, int column) {
            int factor = row[column];
            for (int c = column; c < k + length; c++) {
                row[c] ^= field.times(factor, by[c]);
            }
        }

        void answerAll(int[] bytes, int[] answers) {
            for (int q = 0; q < QUESTIONS; q++) {
                answers[q] = answer(bytes, q);
            }
        }

        int answer(int[] bytes, int q) {
            int step = 1 + q % (length - 1);
            int sum = 0;
            for (int t = 0; t < length / 2; t++) {
                sum += (t + 1) * bytes[(7 * q + t * step) % length];
            }
            return sum % ANSWER_MODULUS;
        }
    }

    /** Bytes that some snapshot has, and their place in a segment. */
    private static final class Chunk {
        final int[] bytes;
        final int segment;
        final int offset;
        int uses;

        Chunk(int[] from, int start, int length, int segment, int offset) {
            bytes = new int[length];
            System.arraycopy(from, start, bytes, 0, length);
            this.segment = segment;
            this.offset = offset;
        }

        boolean isSame(int[] other, int start, int length) {
            if (bytes.length != length) {
                return false;
            }
            for (int i = 0; i < length; i++) {
                if (bytes[i] != other[start + i]) {
                    return false;
                }
            }
            return true;
        }
    }

    /** What the owner's book says of a piece, and what its keeper has of it. */
    private static final class Piece {
        final int[] bytes;
        final int[] answers = new int[QUESTIONS];
        int keeper = NONE;
        boolean there;
        int asked;

        Piece(int length) {
            bytes = new int[length];
        }

        boolean isPlaced() {
            return keeper != NONE;
        }
    }

    /** The bytes held may differ from those sealed: they may have been solved by harmed pieces. */
    private static final class Segment {
        final int[] sealed = new int[SEGMENT_BYTES];
        final int[] held = new int[SEGMENT_BYTES];
        final Piece[] pieces;
        boolean isHeld = true;
        boolean freed;
        int chunks;

        Segment(Coder coder) {
            pieces = new Piece[coder.n];
            for (int j = 0; j < coder.n; j++) {
                pieces[j] = new Piece(coder.length);
            }
        }

        void add(Chunk chunk) {
            System.arraycopy(chunk.bytes, 0, sealed, chunk.offset, chunk.bytes.length);
            System.arraycopy(chunk.bytes, 0, held, chunk.offset, chunk.bytes.length);
            chunks++;
        }

        int pieceWith(int house) {
            for (int j = 0; j < pieces.length; j++) {
                if (pieces[j].keeper == house) {
                    return j;
                }
            }
            return NONE;
        }
    }

    /** The chunks of all files one behind the other; those of a tag begin at its start. */
    private static final class Snapshot {
        final Chunk[] chunks;
        final int[] starts;
        final boolean[] hasFile = new boolean[TAGS];
        boolean forgotten;

        Snapshot(Draft draft, House house) {
            chunks = new Chunk[draft.size];
            for (int c = 0; c < draft.size; c++) {
                chunks[c] = draft.chunks[c];
            }
            starts = draft.starts.clone();
            for (int tag = 0; tag < TAGS; tag++) {
                hasFile[tag] = house.hasFile(tag);
            }
        }
    }

    /** A snapshot before it is known whether it can be sealed; made once, so that sealing makes little. */
    private static final class Draft {
        final Chunk[] chunks = new Chunk[TAGS * (FILE_BYTES / MIN_CHUNK)];
        final int[] starts = new int[TAGS + 1];
        int size;
        int segment;
        int filled;

        /** Whether the house's segments suffice; its new chunks stand behind its old ones then. */
        boolean lay(House house) {
            size = 0;
            segment = house.segments.size() - 1;
            filled = SEGMENT_BYTES;
            for (int tag = 0; tag < TAGS; tag++) {
                starts[tag] = size;
                if (!cut(house, house.folder[tag], house.lengths[tag])) {
                    return false;
                }
            }
            starts[TAGS] = size;
            return true;
        }

        private boolean cut(House house, int[] bytes, int length) {
            int start = 0;
            for (int i = 0; i < length; i++) {
                if (i == length - 1 || isCutBehind(bytes, start, i)) {
                    if (!add(house, bytes, start, i + 1 - start)) {
                        return false;
                    }
                    start = i + 1;
                }
            }
            return true;
        }

        private static boolean isCutBehind(int[] bytes, int start, int i) {
            int length = i + 1 - start;
            if (length < MIN_CHUNK) {
                return false;
            }
            int sum = bytes[i] + 3 * bytes[i - 1] + 5 * bytes[i - 2] + 7 * bytes[i - 3];
            return length == MAX_CHUNK || sum % CUT_DIVISOR == 0;
        }

        private boolean add(House house, int[] bytes, int start, int length) {
            Chunk chunk = house.findChunk(bytes, start, length);
            if (chunk == null) {
                if (filled + length > SEGMENT_BYTES) {
                    segment++;
                    filled = 0;
                }
                if (segment >= MAX_SEGMENTS) {
                    return false;
                }
                chunk = new Chunk(bytes, start, length, segment, filled);
                house.chunks.add(chunk);
                filled += length;
            }
            chunks[size] = chunk;
            size++;
            return true;
        }
    }

    /** A house as owner (folder, chunks, segments, snapshots) and as keeper (disk, limits, what is stored). */
    private static final class House {
        final int number;
        final int blocks;
        final int[] limits = new int[HOUSES];
        final int[] stored = new int[HOUSES];
        final int[] pieceDays = new int[HOUSES];
        final int[][] folder = new int[TAGS][FILE_BYTES];
        final int[] lengths = new int[TAGS];
        final ArrayList<Chunk> chunks = new ArrayList<Chunk>();
        final ArrayList<Segment> segments = new ArrayList<Segment>();
        final ArrayList<Snapshot> snapshots = new ArrayList<Snapshot>();
        int living;
        boolean up = true;
        boolean bare;
        boolean everPlaced;

        House(int number, int blocks) {
            this.number = number;
            this.blocks = blocks;
            for (int tag = 0; tag < TAGS; tag++) {
                lengths[tag] = NONE;
            }
        }

        boolean hasFile(int tag) {
            return lengths[tag] != NONE;
        }

        boolean canAgree(int other, int limit) {
            int sum = limit;
            for (int h = 0; h < HOUSES; h++) {
                if (h != other) {
                    sum += limits[h];
                }
            }
            return sum <= blocks && stored[other] <= limit;
        }

        /** A house has no contract with itself, so it takes nothing from itself. */
        boolean canTakeFrom(int owner) {
            return up && !bare && stored[owner] < limits[owner];
        }

        int countKept() {
            int kept = 0;
            for (int owner = 0; owner < HOUSES; owner++) {
                kept += stored[owner];
            }
            return kept;
        }

        void addDays(int days) {
            for (int owner = 0; owner < HOUSES; owner++) {
                pieceDays[owner] += days * stored[owner];
            }
        }

        int countUnfreed() {
            int unfreed = 0;
            for (int s = 0; s < segments.size(); s++) {
                if (!segments.get(s).freed) {
                    unfreed++;
                }
            }
            return unfreed;
        }

        int countHeld() {
            int held = 0;
            for (int s = 0; s < segments.size(); s++) {
                if (segments.get(s).isHeld) {
                    held++;
                }
            }
            return held;
        }

        Chunk findChunk(int[] bytes, int start, int length) {
            for (int c = 0; c < chunks.size(); c++) {
                if (chunks.get(c).isSame(bytes, start, length)) {
                    return chunks.get(c);
                }
            }
            return null;
        }

        void dropChunksFrom(int first) {
            for (int c = chunks.size() - 1; c >= first; c--) {
                chunks.remove(c);
            }
        }

        void addSegments(int upTo, Coder coder) {
            for (int s = segments.size(); s < upTo; s++) {
                segments.add(new Segment(coder));
            }
        }

        void fillSegments(int firstChunk) {
            for (int c = firstChunk; c < chunks.size(); c++) {
                Chunk chunk = chunks.get(c);
                segments.get(chunk.segment).add(chunk);
            }
        }

        void addSnapshot(Snapshot snapshot) {
            for (int c = 0; c < snapshot.chunks.length; c++) {
                snapshot.chunks[c].uses++;
            }
            snapshots.add(snapshot);
            living++;
        }

        void dropSnapshot(Snapshot snapshot) {
            for (int c = 0; c < snapshot.chunks.length; c++) {
                snapshot.chunks[c].uses--;
            }
            for (int c = chunks.size() - 1; c >= 0; c--) {
                Chunk chunk = chunks.get(c);
                if (chunk.uses == 0) {
                    segments.get(chunk.segment).chunks--;
                    chunks.remove(c);
                }
            }
            snapshot.forgotten = true;
            living--;
        }

        void losePiecesWith(int keeper) {
            for (int s = 0; s < segments.size(); s++) {
                Segment segment = segments.get(s);
                int j = segment.pieceWith(keeper);
                if (j != NONE) {
                    segment.pieces[j].there = false;
                }
            }
        }

        void loseOwn() {
            for (int tag = 0; tag < TAGS; tag++) {
                lengths[tag] = NONE;
            }
            for (int s = 0; s < segments.size(); s++) {
                segments.get(s).isHeld = false;
            }
            bare = true;
        }
    }
}
