/** Compares what calls answer with what is due. */
final class Due {
    static final String RANGE = "throws.IllegalArgumentException";
    static final String STATE = "throws.IllegalStateException";
    static final String INDEX = "throws.IndexOutOfBoundsException";

    private static int wrong = 0;
    private static int told = 0;

    interface Call {
        long answer();
    }

    /** The answer as a text, or the exact class of what was thrown. */
    static String said(Call call) {
        try {
            return Long.toString(call.answer());
        } catch (RuntimeException e) {
            return "throws." + e.getClass().getSimpleName();
        }
    }

    static void is(String what, long want, Call call) {
        same(what, Long.toString(want), said(call));
    }

    static void is(String what, String want, Call call) {
        same(what, want, said(call));
    }

    static void same(String what, String want, String got) {
        told++;
        if (!want.equals(got)) {
            wrong++;
            if (wrong <= 40) {
                System.out.println(what + " answered " + got + ", due is " + want);
            }
        }
    }

    static void close(String name) {
        System.out.println(name + ": " + told + " answers, " + wrong + " not as due");
        if (wrong > 0 || told == 0) {
            System.exit(1);
        }
    }

    private Due() {
    }
}
