/** Counts and prints the answers that are not the ones that are due. */
final class Due {
    /** A call whose exception is looked at. */
    interface Call {
        int answer();
    }

    private static int wrong = 0;
    private static int looked = 0;

    private Due() {
    }

    static void is(String call, long got, long want) {
        looked++;
        if (got != want) {
            wrong++;
            System.out.println(call + " answered " + got + ", due is " + want);
        }
    }

    static void is(String call, boolean got, boolean want) {
        is(call, got ? 1 : 0, want ? 1 : 0);
    }

    static void is(String call, String got, String want) {
        looked++;
        if (!got.equals(want)) {
            wrong++;
            System.out.println(call + " answered " + got + ", due is " + want);
        }
    }

    static void throwsIt(String call, Class<? extends RuntimeException> want, Call it) {
        is(call, outcome(it), "throws." + want.getSimpleName());
    }

    /** The answer as a text, or the exception's name behind "throws.". */
    static String outcome(Call it) {
        try {
            return String.valueOf(it.answer());
        } catch (RuntimeException e) {
            return "throws." + e.getClass().getSimpleName();
        }
    }

    static int wrong() {
        return wrong;
    }

    static void end(String test) {
        System.out.println(test + ": " + looked + " answers, " + wrong + " not as due");
        if (wrong != 0 || looked == 0) {
            System.exit(1);
        }
    }
}
