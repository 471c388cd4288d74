import java.util.Random;
import java.util.function.IntSupplier;

/** All promises: long runs of calls, the same for every run of the test, beside the model. */
public final class ModelTest {
    private static final int DESKS = 1500;
    private static final int CALLS = 512;
    private static final String BYTES = "pdDPFXYO[]{}();,|&!?+-=<>aclhusrLS0123456789 ~";

    private final Random random;
    private AccessDesk desk;
    private DeskModel model;
    private String left = "";
    /** In a small world few roles, users and sessions are asked for, so that they meet more often. */
    private final boolean isSmall;

    private ModelTest(long seed) {
        random = new Random(seed);
        isSmall = seed % 2 == 0;
    }

    public static void main(String[] args) {
        for (int seed = 0; seed < DESKS; seed++) {
            new ModelTest(seed).run(seed);
        }
        Due.end();
    }

    private void run(int seed) {
        desk = new AccessDesk();
        model = new DeskModel();
        boolean isAboutTexts = seed % 3 == 0;
        for (int call = 0; call < CALLS; call++) {
            String what = "desk " + seed + ", call " + call + ": ";
            if (!left.isEmpty()) {
                feedNext(what);
            } else if (random.nextInt(isAboutTexts ? 3 : 60) == 0) {
                left = text();
            } else {
                anyCall(what, random.nextInt(25));
            }
        }
    }

    private void feedNext(String what) {
        int n = Math.min(left.length(), 8);
        long packed = random.nextLong();
        for (int k = 0; k < n; k++) {
            packed = packed << 8 | left.charAt(k);
        }
        left = left.substring(n);
        long bytes = packed;
        both(what + "feed", () -> desk.feed(bytes, n), () -> model.feed(bytes, n));
        if (left.isEmpty()) {
            both(what + "policy", desk::policy, model::policy);
            both(what + "place", desk::place, model::place);
        }
    }

    private void both(String what, IntSupplier call, IntSupplier due) {
        Due.same(what, Due.outcome(due), Due.outcome(call));
    }

    private void bothDo(String what, Runnable call, Runnable due) {
        Due.same(what, Due.outcome(due), Due.outcome(call));
    }

    /** Mostly 0 to last; now and then just outside, or far. */
    private int about(int last) {
        int kind = random.nextInt(60);
        return kind == 0 ? -1 : kind == 1 ? last + 1 : kind == 2 ? random.nextInt() : random.nextInt(last + 1);
    }

    private int number() {
        return random.nextInt(8) == 0 ? random.nextInt() : random.nextInt(12) - 2;
    }

    private void anyCall(String what, int kind) {
        int a = about(isSmall ? 1 : 5);
        int b = about(isSmall ? 4 : 11);
        int c = about(isSmall ? 2 : 7);
        int d = about(isSmall ? 4 : 11);
        boolean on = random.nextInt(3) > 0;
        switch (kind) {
            case 0, 1 -> bothDo(what + "senior", () -> desk.senior(b, d), () -> model.senior(b, d));
            case 2 -> bothDo(what + "unsenior", () -> desk.unsenior(b, d), () -> model.unsenior(b, d));
            case 3, 4 -> bothDo(what + "assign", () -> desk.assign(c, b), () -> model.assign(c, b));
            case 5 -> bothDo(what + "withdraw", () -> desk.withdraw(c, b), () -> model.withdraw(c, b));
            case 6 -> {
                int roles = about(isSmall ? 31 : 4095);
                int n = 1 + about(6);
                both(what + "bound", () -> desk.bound(on, roles, n), () -> model.bound(on, roles, n));
            }
            case 7 -> {
                int rank = number();
                bothDo(what + "rank", () -> desk.rank(c, rank, !on), () -> model.rank(c, rank, !on));
            }
            case 8, 9 -> bothDo(what + "open", () -> desk.open(a, c), () -> model.open(a, c));
            case 10 -> bothDo(what + "close", () -> desk.close(a), () -> model.close(a));
            case 11, 12, 13 ->
                bothDo(what + "activate", () -> desk.activate(a, b, on), () -> model.activate(a, b, on));
            case 14 -> both(what + "holds", () -> desk.holds(a), () -> model.holds(a));
            case 15 -> both(what + "authorized", () -> desk.authorized(c), () -> model.authorized(c));
            case 16 -> {
                int object = about(15);
                int klass = about(9);
                int level = number();
                bothDo(what + "object", () -> desk.object(object, klass, level, !on),
                        () -> model.object(object, klass, level, !on));
            }
            default -> requestOrBook(what, kind, a);
        }
    }

    private void requestOrBook(String what, int kind, int session) {
        int hour = about(23);
        int k = model.entry(-1, 0) - random.nextInt(45) + 2;
        int part = about(6);
        int bits = 1 << random.nextInt(32);
        switch (kind) {
            case 17, 18 -> {
                int action = about(9);
                int object = about(15);
                both(what + "decide", () -> desk.decide(session, action, object, hour),
                        () -> model.decide(session, action, object, hour));
            }
            case 19, 20, 21 -> {
                int target = about(159);
                int value = number();
                both(what + "request", () -> desk.request(session, target, hour, value),
                        () -> model.request(session, target, hour, value));
            }
            case 22 -> both(what + "entry", () -> desk.entry(k, part), () -> model.entry(k, part));
            case 23 -> {
                bothDo(what + "touch", () -> desk.touch(k, part, bits), () -> model.touch(k, part, bits));
                if (random.nextInt(4) > 0) {
                    bothDo(what + "touch", () -> desk.touch(k, part, bits), () -> model.touch(k, part, bits));
                }
            }
            default -> both(what + "audit", desk::audit, model::audit);
        }
    }

    /** A text that is right most of the time, or has a byte or two changed. */
    private String text() {
        StringBuilder text = new StringBuilder(node(0, false));
        if (text.length() > 300) {
            text.setLength(300);
        }
        int changes = random.nextInt(5) - 2;
        for (int k = 0; k < changes; k++) {
            int at = random.nextInt(text.length());
            char other = BYTES.charAt(random.nextInt(BYTES.length()));
            switch (random.nextInt(3)) {
                case 0 -> text.setCharAt(at, other);
                case 1 -> text.deleteCharAt(at);
                default -> text.insert(at, other);
            }
            if (text.length() == 0) {
                text.append(other);
            }
        }
        return text.substring(0, Math.min(300, text.length()));
    }

    private String node(int within, boolean policyOnly) {
        if (!policyOnly && random.nextInt(4) < 1 + within / 2) {
            return rule();
        }
        char kind = "DPFXYO".charAt(random.nextInt(within == 4 && random.nextInt(9) > 0 ? 5 : 6));
        StringBuilder text = new StringBuilder().append(kind).append(target()).append('{');
        int most = random.nextInt(30) == 0 ? 45 : 3;
        for (int k = random.nextInt(most); k >= 0 && text.length() < 250; k--) {
            boolean isDeepest = within >= 4 && random.nextInt(9) > 0;
            text.append(isDeepest || most > 3 && kind != 'O' ? rule() : node(within + 1, kind == 'O'));
        }
        return text.append('}').append(duties('+')).append(duties('-')).toString();
    }

    private String rule() {
        String condition = random.nextInt(3) == 0 ? "?" + expression(1) : "";
        return (random.nextBoolean() ? "p" : "d") + target() + condition + duties('+') + ";";
    }

    private String target() {
        if (random.nextInt(2) == 0) {
            return "";
        }
        StringBuilder text = new StringBuilder("[").append(match());
        while (random.nextInt(3) == 0) {
            text.append(",|&".charAt(random.nextInt(3))).append(match());
        }
        return text.append(']').toString();
    }

    private String expression(int brackets) {
        String denied = "!".repeat(Math.max(0, random.nextInt(6) - 3));
        if (brackets > 6 && random.nextInt(9) > 0 || random.nextInt(5) > 2) {
            return denied + match();
        }
        String operator = random.nextBoolean() ? "&" : "|";
        return denied + "(" + expression(brackets + 1) + operator + expression(brackets + 1) + ")";
    }

    private String match() {
        char letter = "aclhusrLS".charAt(random.nextInt(9));
        String sign = letter == 'r' || letter == 'u' ? "=" : "=<>".substring(random.nextInt(3)).substring(0, 1);
        int most = random.nextInt(10) == 0 ? 1000 : letter == 'h' ? 24 : 12;
        return letter + sign + random.nextInt(most);
    }

    private String duties(char sign) {
        if (random.nextInt(3) > 0) {
            return "";
        }
        StringBuilder digits = new StringBuilder().append(sign).append(random.nextInt(6));
        int more = random.nextInt(8);
        if (digits.indexOf(String.valueOf(more)) < 0 && random.nextInt(3) == 0) {
            digits.append(more);
        }
        return digits.toString();
    }
}
