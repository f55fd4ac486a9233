/** Counts answers that are not as due; every test closes with end(). */
final class Check {
    private static final int SHOWN = 40;

    private static int asked = 0;
    private static int wrong = 0;
    private static String sentence = "";

    private Check() {
    }

    /** A call whose answer, or exception, is to be looked at. */
    interface Call {
        long answer();
    }

    /** A call without an answer. */
    interface Deed {
        void run();
    }

    /** The document's words that the answers from here on belong to. */
    static void sentence(String words) {
        sentence = '"' + words + "\": ";
    }

    static void same(String what, long got, long due) {
        same(what, Long.toString(got), Long.toString(due));
    }

    static void same(String what, String got, String due) {
        asked++;
        if (!got.equals(due)) {
            wrong++;
            if (wrong <= SHOWN) {
                System.out.println(sentence + what + " answered " + got + ", due is " + due);
            }
        }
    }

    /** The exception's very class is asked for, not one of its children. */
    static void refused(String what, Class<? extends Exception> due, Deed deed) {
        same(what, answerOf(() -> {
            deed.run();
            return 0;
        }), "throws." + due.getSimpleName());
    }

    static String answerOf(Call call) {
        try {
            return Long.toString(call.answer());
        } catch (RuntimeException e) {
            return "throws." + e.getClass().getSimpleName();
        }
    }

    static void end(String name) {
        System.out.println(name + ": " + asked + " answers, " + wrong + " wrong");
        if (wrong != 0 || asked == 0) {
            System.exit(1);
        }
    }
}
