import java.util.function.IntSupplier;

/** What the tests share: calls whose answers are compared with those that are due. */
final class Due {
    /** Stands for a call that answers nothing and throws nothing. */
    static final String DONE = "done";
    static final String ARGUMENT = "IllegalArgumentException";
    static final String STATE = "IllegalStateException";
    static final String INDEX = "IndexOutOfBoundsException";
    static final String UNSUPPORTED = "UnsupportedOperationException";

    private static int looked = 0;
    private static int wrong = 0;

    private Due() {
    }

    static String outcome(IntSupplier call) {
        try {
            return String.valueOf(call.getAsInt());
        } catch (RuntimeException e) {
            return e.getClass().getSimpleName();
        }
    }

    static String outcome(Runnable call) {
        try {
            call.run();
            return DONE;
        } catch (RuntimeException e) {
            return e.getClass().getSimpleName();
        }
    }

    static void same(String what, Object due, Object got) {
        looked++;
        if (!due.equals(got)) {
            wrong++;
            System.out.println(what + " answered " + got + ", due is " + due);
        }
    }

    static void answers(String what, int due, IntSupplier call) {
        same(what, String.valueOf(due), outcome(call));
    }

    static void refuses(String what, String due, IntSupplier call) {
        same(what, due, outcome(call));
    }

    static void works(String what, Runnable call) {
        same(what, DONE, outcome(call));
    }

    static void fails(String what, String due, Runnable call) {
        same(what, due, outcome(call));
    }

    /** Feeds a text of bytes 0 to 255, eight at a time. */
    static void feed(AccessDesk desk, String text) {
        for (int from = 0; from < text.length(); from += 8) {
            int to = Math.min(from + 8, text.length());
            long packed = 0;
            for (int k = from; k < to; k++) {
                packed = packed << 8 | text.charAt(k) & 0xFF;
            }
            desk.feed(packed, to - from);
        }
    }

    static String load(AccessDesk desk, String text) {
        feed(desk, text);
        return outcome((IntSupplier) desk::policy);
    }

    static void end() {
        System.out.println(looked + " looked at, " + wrong + " wrong");
        if (wrong != 0 || looked == 0) {
            System.exit(1);
        }
    }
}
