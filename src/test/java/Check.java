/** Counts answers that are not as due; every test of the project ends with end(). */
final class Check {
    private static int seen = 0;
    private static int wrong = 0;

    private Check() {
    }

    static void due(String what, long got, long want) {
        seen++;
        if (got != want) {
            wrong++;
            System.out.println(what + " answered " + got + ", due is " + want);
        }
    }

    static void due(String what, boolean got, boolean want) {
        due(what, got ? 1 : 0, want ? 1 : 0);
    }

    static void same(String what, Object got, Object want) {
        seen++;
        if (!got.equals(want)) {
            wrong++;
            System.out.println(what + " answered " + got + ", due is " + want);
        }
    }

    static void badArgument(String what, Runnable call) {
        thrown(what, call, IllegalArgumentException.class);
    }

    static void badState(String what, Runnable call) {
        thrown(what, call, IllegalStateException.class);
    }

    private static void thrown(String what, Runnable call, Class<?> want) {
        seen++;
        Class<?> got = null;
        try {
            call.run();
        } catch (RuntimeException e) {
            got = e.getClass();
        }
        if (got != want) {
            wrong++;
            System.out.println(what + " threw " + got + ", due is " + want);
        }
    }

    static void end() {
        String test = StackWalker.getInstance(StackWalker.Option.RETAIN_CLASS_REFERENCE).getCallerClass().getName();
        System.out.println(test + ": " + (seen - wrong) + " of " + seen + " answers are as due");
        if (wrong != 0 || seen == 0) {
            System.exit(1);
        }
    }
}
