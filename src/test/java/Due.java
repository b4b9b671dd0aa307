/** Compares what calls answer with what is due. */
final class Due {
    static final String RANGE = "throws.IllegalArgumentException";
    static final String STATE = "throws.IllegalStateException";
    static final String INDEX = "throws.IndexOutOfBoundsException";

    private static int wrong = 0;
    private static int told = 0;
    private static int sentences = 0;
    private static String heading = "";

    interface Call {
        long answer();
    }

    /** The answer as a text, or the exact class of what was thrown. */
    static String said(Call call) {
        try {
            return Long.toString(call.answer());
        } catch (RuntimeException e) {
            return "throws." + e.getClass().getSimpleName();
        }
    }

    static void is(String what, long want, Call call) {
        same(what, Long.toString(want), said(call));
    }

    static void is(String what, String want, Call call) {
        same(what, want, said(call));
    }

    static void same(String what, String want, String got) {
        told++;
        if (!want.equals(got)) {
            wrong++;
            if (wrong <= 40) {
                System.out.println(heading + what + " answered " + got + ", due is " + want);
            }
        }
    }

    /** The test of one sentence of the document: it asks at least once, and throws nothing. */
    static void sentence(String words, Runnable asks) {
        int before = told;
        heading = "'" + words + "': ";
        String ended = said(() -> {
            asks.run();
            return told - before;
        });
        same("the test of the sentence asks", "true", "" + (!ended.equals("0") && !ended.startsWith("throws")));
        heading = "";
        sentences++;
    }

    static void close(String name) {
        String tests = sentences > 0 ? sentences + " sentences, " : "";
        System.out.println(name + ": " + tests + told + " answers, " + wrong + " not as due");
        if (wrong > 0 || told == 0) {
            System.exit(1);
        }
    }

    private Due() {
    }
}
