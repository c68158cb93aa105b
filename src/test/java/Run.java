import java.util.ArrayList;
import java.util.List;

/**
 * A run of calls on a new object, at the borders of one sentence of the document. The calls are kept, so the run can be
 * made again: a call that must change nothing is made behind one of two equal runs, and both must answer all calls of
 * Probe alike then.
 */
final class Run {
    private static final int MOST_CALLS = 512;
    private final String sentence;
    private final List<Call> calls = new ArrayList<>();
    private final FriendBackup object = new FriendBackup();

    Run(String sentence) {
        this.sentence = sentence;
    }

    /** Calls whose answers are looked at elsewhere; none of them throws, and no contract is refused. */
    Run with(String... texts) {
        for (String text : texts) {
            Call call = Call.of(text);
            Object answer = make(call);
            if (answer instanceof Class || call.isOf("contract") && answer.equals(false)) {
                Check.same(sentence + ": " + text, answer, "done");
            }
        }
        return this;
    }

    Run due(String text, Object want) {
        Check.same(sentence + ": " + text, make(Call.of(text)), want);
        return this;
    }

    /** It throws IllegalArgumentException, and nothing is changed. */
    Run argument(String text) {
        return idle(text, IllegalArgumentException.class);
    }

    /** It throws IllegalStateException, and nothing is changed. */
    Run state(String text) {
        return idle(text, IllegalStateException.class);
    }

    /** It answers so, and nothing is changed; it is not made on this run's own object. */
    Run idle(String text, Object want) {
        Call call = Call.of(text);
        Check.same(sentence + ": " + text, call.on(made()), want);
        String difference = "none";
        for (List<Call> probe : Probe.of(houses())) {
            if (difference.equals("none")) {
                difference = differenceBy(call, probe);
            }
        }
        Check.same(sentence + ": " + text + ", difference behind it", difference, "none");
        return this;
    }

    /** It does not throw, whatever it answers; it is not made on this run's own object. */
    Run allowed(String text) {
        Check.same(sentence + ": " + text + " throws", Call.of(text).on(made()) instanceof Class, false);
        return this;
    }

    Run bytes(int h, int tag, int... bytes) {
        for (int b : bytes) {
            with("write(" + h + ", " + tag + ", " + b + ")");
        }
        return this;
    }

    Run equalBytes(int h, int tag, int b, int many) {
        for (int i = 0; i < many; i++) {
            bytes(h, tag, b);
        }
        return this;
    }

    /** Chunks of four bytes each that end by their sums. */
    Run smallChunks(int h, int tag, int from, int to) {
        for (int i = from; i < to; i++) {
            bytes(h, tag, Scene.smallChunk(i));
        }
        return this;
    }

    /** A new segment of a byte or so: the file of tag 8 is sealed with bytes that no other one has. */
    Run segmentOf(int h, int... bytes) {
        return with("file(" + h + ", 8, true)").bytes(h, 8, bytes).with("seal(" + h + ")");
    }

    private Object make(Call call) {
        calls.add(call);
        if (calls.size() > MOST_CALLS) {
            Check.same(sentence + ": calls", calls.size(), "at most " + MOST_CALLS);
        }
        return call.on(object);
    }

    private FriendBackup made() {
        FriendBackup made = new FriendBackup();
        for (Call call : calls) {
            call.on(made);
        }
        return made;
    }

    private List<Integer> houses() {
        List<Integer> houses = new ArrayList<>();
        for (Call call : calls) {
            if (call.isOf("house")) {
                houses.add(call.number(0));
            }
        }
        return houses;
    }

    private String differenceBy(Call call, List<Call> probe) {
        if (calls.size() + 1 + probe.size() > MOST_CALLS) {
            return "not seen within " + MOST_CALLS + " calls";
        }
        FriendBackup without = made();
        FriendBackup with = made();
        call.on(with);
        for (Call look : probe) {
            Object due = look.on(without);
            Object got = look.on(with);
            if (!got.equals(due)) {
                return look + " answers " + got + ", without it " + due;
            }
        }
        return "none";
    }
}
