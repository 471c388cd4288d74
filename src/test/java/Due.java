import java.util.function.IntConsumer;
import java.util.function.IntSupplier;

/** What the tests share: calls whose answers are compared with those that are due. */
final class Due {
    /** Stands for a call that answers nothing and throws nothing. */
    static final String DONE = "done";
    static final String ARGUMENT = "IllegalArgumentException";
    static final String STATE = "IllegalStateException";
    static final String INDEX = "IndexOutOfBoundsException";
    static final String UNSUPPORTED = "UnsupportedOperationException";

    private static int looked = 0;
    private static int wrong = 0;
    private static String sentence = "";
    private static int lookedBefore = 0;

    private Due() {
    }

    static String outcome(IntSupplier call) {
        try {
            return String.valueOf(call.getAsInt());
        } catch (RuntimeException e) {
            return e.getClass().getSimpleName();
        }
    }

    static String outcome(Runnable call) {
        try {
            call.run();
            return DONE;
        } catch (RuntimeException e) {
            return e.getClass().getSimpleName();
        }
    }

    static void same(String what, Object due, Object got) {
        looked++;
        if (!due.equals(got)) {
            wrong++;
            System.out.println(sentence + what + " answered " + got + ", due is " + due);
        }
    }

    /** The words, of the document or of LANGUAGE.md, that the calls from here on are about. */
    static void sentence(String words) {
        endSentence();
        sentence = "\"" + words + "\": ";
        lookedBefore = looked;
    }

    /** A sentence without a call is a gap in the tests, not a success. */
    private static void endSentence() {
        if (!sentence.isEmpty() && looked == lookedBefore) {
            same("the number of its calls", "one or more", "none");
        }
    }

    static void answers(String what, int due, IntSupplier call) {
        same(what, String.valueOf(due), outcome(call));
    }

    static void refuses(String what, String due, IntSupplier call) {
        same(what, due, outcome(call));
    }

    static void works(String what, Runnable call) {
        same(what, DONE, outcome(call));
    }

    static void fails(String what, String due, Runnable call) {
        same(what, due, outcome(call));
    }

    /** No number below 0 or above last will do, near or far, not even if its lowest bits would. */
    static void refusesOutside(String what, int last, IntConsumer call) {
        int[] outside = {-1, -last - 1, last + 1, 2 * last + 2, 1 << 8, 1 << 16,
            Integer.MIN_VALUE, Integer.MIN_VALUE + last, Integer.MAX_VALUE};
        for (int number : outside) {
            fails(what + " " + number, ARGUMENT, () -> call.accept(number));
        }
    }

    /** All that can be seen of a desk without changing it, but for decisions and entries. */
    static String picture(AccessDesk desk) {
        StringBuilder seen = new StringBuilder();
        for (int user = 0; user < 8; user++) {
            seen.append(desk.authorized(user)).append(' ');
        }
        for (int session = 0; session < 6; session++) {
            seen.append(desk.holds(session)).append(' ');
        }
        seen.append(desk.place()).append(' ').append(desk.entry(-1, 0)).append(' ').append(desk.audit());
        return seen.toString();
    }

    /** A refused call leaves what can be seen as it was. */
    static void refusesUnchanged(AccessDesk desk, String what, String due, Runnable call) {
        String before = picture(desk);
        fails(what, due, call);
        same("the desk after " + what, before, picture(desk));
    }

    /** Feeds a text of bytes 0 to 255, eight at a time. */
    static void feed(AccessDesk desk, String text) {
        for (int from = 0; from < text.length(); from += 8) {
            int to = Math.min(from + 8, text.length());
            long packed = 0;
            for (int k = from; k < to; k++) {
                packed = packed << 8 | text.charAt(k) & 0xFF;
            }
            desk.feed(packed, to - from);
        }
    }

    static String load(AccessDesk desk, String text) {
        feed(desk, text);
        return outcome((IntSupplier) desk::policy);
    }

    static void end() {
        endSentence();
        System.out.println(looked + " looked at, " + wrong + " wrong");
        if (wrong != 0 || looked == 0) {
            System.exit(1);
        }
    }
}
