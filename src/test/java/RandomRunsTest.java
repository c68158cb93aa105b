import java.lang.reflect.InvocationTargetException;
import java.lang.reflect.Method;
import java.util.Arrays;
import java.util.HashMap;
import java.util.Map;
import java.util.Random;

/** Runs of up to 512 calls, drawn from fixed seeds, on the class and on PlainModel: the answers must be the same. */
final class RandomRunsTest {
    private static final int CALLS = 512;
    private static final Map<String, Method> CLASS = methods(FriendBackup.class);
    private static final Map<String, Method> MODEL = methods(PlainModel.class);

    private final Random random;
    private final String name;
    private final FriendBackup x = new FriendBackup();
    private final PlainModel model = new PlainModel();
    private final Map<String, Integer> tally;
    private final int[] newest = new int[10];
    private int calls = 0;
    private boolean same = true;

    private RandomRunsTest(int seed, Map<String, Integer> tally) {
        random = new Random(seed);
        name = "seed " + seed;
        this.tally = tally;
    }

    public static void main(String[] args) {
        int runs = args.length > 0 ? Integer.parseInt(args[0]) : 1000;
        Map<String, Integer> tally = new java.util.TreeMap<>();
        for (int seed = 0; seed < runs; seed++) {
            new RandomRunsTest(seed, tally).run();
        }
        if (args.length > 1) {
            tally.forEach((what, times) -> System.out.println(times + "\t" + what));
        }
        Check.end();
    }

    private static Map<String, Method> methods(Class<?> type) {
        Map<String, Method> methods = new HashMap<>();
        for (Method method : type.getDeclaredMethods()) {
            if (java.lang.reflect.Modifier.isPublic(method.getModifiers())) {
                methods.put(method.getName(), method);
            }
        }
        return methods;
    }

    private static String answer(Object object, Method method, Object[] args) {
        try {
            return String.valueOf(method.invoke(object, args));
        } catch (InvocationTargetException e) {
            return e.getCause().getClass().getName();
        } catch (IllegalAccessException e) {
            throw new AssertionError(e);
        }
    }

    private String call(String method, Object... args) {
        if (calls >= CALLS || !same) {
            return "";
        }
        calls++;
        String got = answer(x, CLASS.get(method), args);
        String want = answer(model, MODEL.get(method), args);
        same = got.equals(want);
        Check.due(name + ", call " + calls + ", " + method + Arrays.toString(args) + " gave " + got + ", the model "
                + want + ": same", same, true);
        boolean isNumber = want.matches("-?[0-9]+") && !want.equals("-1");
        tally.merge(method + " " + (isNumber && !method.equals("sample") ? "a number" : want), 1, Integer::sum);
        if (method.equals("seal") && want.matches("[0-9]+")) {
            newest[(Integer) args[0]] = Integer.parseInt(want);
        }
        return got;
    }

    private int below(int bound) {
        return random.nextInt(bound);
    }

    /** Mostly one of those below the bound, now and then one beside them. */
    private int about(int bound) {
        return below(40) == 0 ? below(bound + 5) - 2 : below(bound);
    }

    private void run() {
        int houses = 2 + below(9);
        if (below(4) > 0) {
            int k = 2 + below(5);
            call("code", k, Math.min(12, k + below(8)));
        }
        for (int h = 0; h < houses; h++) {
            call("house", h, below(5) == 0 ? 1 + below(12) : 20 + below(380));
        }
        for (int a = 0; a < houses; a++) {
            for (int b = 0; b < a; b++) {
                if (below(4) > 0) {
                    call("contract", a, b, below(3) == 0 ? below(4) : 5 + below(16));
                }
            }
        }
        int owners = 1 + below(Math.min(3, houses));
        while (calls < CALLS && same) {
            step(houses, below(3) > 0 ? below(owners) : about(houses));
        }
    }

    private void step(int houses, int h) {
        switch (below(34)) {
            case 0, 1 -> writeSome(h);
            case 2 -> call("seal", h);
            case 3, 4 -> call("push", h);
            case 5 -> call("up", about(houses), below(3) > 0);
            case 6 -> call("up", h, true);
            case 7 -> loseOne(houses);
            case 8, 9, 10, 11, 12 -> harmOne(houses, h);
            case 13 -> call("recover", h);
            case 14, 15, 16 -> sampleSome(h);
            case 17, 18 -> call("audit", h);
            case 19, 20, 21 -> call("repair", h);
            case 22, 23, 24 -> restoreOne(h);
            case 25 -> forgetOne(h);
            case 26, 27 -> call("health", h, aboutSegment(h));
            case 28 -> call("keeper", h, aboutSegment(h), about(6));
            case 29 -> call("count", about(houses), about(6));
            case 30 -> call("stored", about(houses), about(houses));
            case 31 -> call("settle", below(30) == 0 ? below(12000) - 1000 : calls + below(3));
            case 32 -> call("balance", about(houses), about(houses));
            default -> rare(houses, h);
        }
    }

    /** The model tells how many there are, so that most calls meet something. */
    private int aboutSegment(int h) {
        String segments = answer(model, MODEL.get("count"), new Object[] {h, 0});
        return about(segments.length() < 3 ? Math.max(1, Integer.parseInt(segments)) : 1);
    }

    private void harmOne(int houses, int h) {
        int segment = aboutSegment(h);
        String keeper = answer(model, MODEL.get("keeper"), new Object[] {h, segment, below(3)});
        int who = keeper.length() == 1 ? Integer.parseInt(keeper) : about(houses);
        call("harm", who, h, segment, about(10), below(3) * below(86));
    }

    private void sampleSome(int h) {
        int segment = aboutSegment(h);
        int piece = about(4);
        for (int i = below(5); i >= 0; i--) {
            call("sample", h, segment, piece);
        }
    }

    private void writeSome(int h) {
        if (below(3) == 0) {
            call("file", h, about(10), below(2) == 0);
        }
        int tag = about(4);
        int alphabet = below(2) == 0 ? 2 : 1 + below(256);
        int many = below(3) == 0 ? below(90) : below(25);
        for (int i = 0; i < many; i++) {
            String answer = call("write", h, tag, below(300) == 0 ? 256 : below(alphabet));
            if (answer.startsWith("java")) {
                break;
            }
        }
        if (below(2) == 0) {
            call("seal", h);
            call("push", h);
        }
    }

    private void loseOne(int houses) {
        int h = about(houses);
        call("loseDisk", h);
        if (below(4) > 0) {
            call("recover", h);
            call("repair", h);
        }
    }

    private void restoreOne(int h) {
        String length = call("restore", h, aboutSnapshot(h), about(3));
        for (int i = 0; i < 3; i++) {
            call("restored", about(length.length() < 3 ? 20 : 60));
        }
    }

    private int aboutSnapshot(int h) {
        return h >= 0 && h < newest.length && below(4) > 0 ? Math.max(0, newest[h] - below(3)) : about(8);
    }

    private void forgetOne(int h) {
        call("forget", h, aboutSnapshot(h));
        if (below(2) == 0) {
            call("seal", h);
        }
    }

    private void rare(int houses, int h) {
        switch (below(4)) {
            case 0 -> call("code", about(8), about(14));
            case 1 -> call("house", about(11), about(410));
            case 2 -> call("contract", about(houses), about(houses), about(25));
            default -> call("file", h, about(5), below(2) == 0);
        }
    }
}
