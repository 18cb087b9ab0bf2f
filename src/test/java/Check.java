/** Counts wrong answers for the tests; a test class ends with {@link #finish}. */
final class Check {
    /** A call that answers; a boolean answer is turned into 1 or 0 by {@link #bit}. */
    interface Call {
        long answer();
    }

    private static int wrong;
    private static int checked;

    private Check() {
    }

    static void due(String call, long got, long want) {
        checked++;
        if (got != want) {
            wrong++;
            System.out.println(call + " answered " + got + ", due is " + want);
        }
    }

    static void due(String call, boolean got, boolean want) {
        due(call, bit(got), bit(want));
    }

    static void due(String call, String got, String want) {
        checked++;
        if (!got.equals(want)) {
            wrong++;
            System.out.println(call + " answered \"" + got + "\", due is \"" + want + "\"");
        }
    }

    /** For very many calls: the text is only made for a wrong answer. */
    static void same(String call, int first, int second, long got, long want) {
        if (got == want) {
            checked++;
        } else {
            due(call + "(" + first + ", " + second + ")", got, want);
        }
    }

    static void argument(String call, Call made) {
        due(call, outcome(made), "IllegalArgumentException");
    }

    static void state(String call, Call made) {
        due(call, outcome(made), "IllegalStateException");
    }

    static void index(String call, Call made) {
        due(call, outcome(made), "IndexOutOfBoundsException");
    }

    static void missing(String call, Call made) {
        due(call, outcome(made), "NoSuchElementException");
    }

    /** The answer as a text, or the name of the exception that the call throws. */
    static String outcome(Call made) {
        try {
            return Long.toString(made.answer());
        } catch (RuntimeException e) {
            return e.getClass().getSimpleName();
        }
    }

    static long bit(boolean answer) {
        return answer ? 1L : 0L;
    }

    static void finish(String name) {
        System.out.println(name + ": " + checked + " checks, " + wrong + " wrong");
        if (wrong != 0) {
            System.exit(1);
        }
    }
}
