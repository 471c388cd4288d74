/** Promise 18: request. */
public final class RequestTest {
    public static void main(String[] args) {
        requestIsRefused();
        actions();
        onlyOnPermit();
        dutiesThatAlwaysGo();
        dutyFour();
        dutyFive();
        dutiesThatNobodyKnows();
        allOrNone();
        valuesStay();
        Due.end();
    }

    private static AccessDesk deskWith(String text) {
        AccessDesk desk = new AccessDesk();
        desk.open(0, 0);
        desk.open(5, 7);
        Due.load(desk, text);
        Due.answers("place of " + text, -1, desk::place);
        return desk;
    }

    private static void requestIsRefused() {
        AccessDesk desk = deskWith("p;");
        Due.refuses("session -1", Due.ARGUMENT, () -> desk.request(-1, 0, 0, 0));
        Due.refuses("session 6", Due.ARGUMENT, () -> desk.request(6, 0, 0, 0));
        Due.refuses("target -1", Due.ARGUMENT, () -> desk.request(0, -1, 0, 0));
        Due.refuses("target 160", Due.ARGUMENT, () -> desk.request(0, 160, 0, 0));
        Due.refuses("the least target", Due.ARGUMENT, () -> desk.request(0, Integer.MIN_VALUE, 0, 0));
        Due.refuses("hour -1", Due.ARGUMENT, () -> desk.request(0, 0, -1, 0));
        Due.refuses("hour 24", Due.ARGUMENT, () -> desk.request(0, 0, 24, 0));
        Due.refuses("closed", Due.STATE, () -> desk.request(1, 0, 0, 0));
        Due.refuses("closed, and no such hour", Due.ARGUMENT, () -> desk.request(1, 0, 24, 0));
        Due.answers("the book has none of these", 0, () -> desk.entry(-1, 0));
        Due.answers("the last of each", 0, () -> desk.request(5, 159, 23, 1));
        Due.answers("the book has it", 1, () -> desk.entry(-1, 0));
    }

    private static void actions() {
        AccessDesk desk = deskWith("p;");
        Due.answers("at first", 0, () -> desk.request(0, 15, 0, 99));
        Due.answers("put", 7, () -> desk.request(0, 16 + 15, 0, 7));
        Due.answers("get", 7, () -> desk.request(5, 15, 0, 99));
        Due.answers("add", 2, () -> desk.request(0, 32 + 15, 0, -5));
        for (int action = 3; action < 10; action++) {
            int asked = action;
            Due.answers("action " + action, 2, () -> desk.request(0, 16 * asked + 15, 0, 99));
        }
        Due.answers("another object", 0, () -> desk.request(0, 14, 0, 99));
        desk.request(0, 16, 0, Integer.MAX_VALUE);
        Due.answers("add as an int", Integer.MIN_VALUE, () -> desk.request(0, 32, 0, 1));
        Due.answers("put again", 1, () -> desk.request(0, 16, 0, 1));
    }

    private static void onlyOnPermit() {
        String[] texts = {"p[c=1];", "d;", "p?L=1;", "d?L=1;", "D{p?L=1;d?L=1;}"};
        int[] values = {0, 2, 3, 4, 5};
        for (int k = 0; k < texts.length; k++) {
            AccessDesk desk = deskWith(texts[k]);
            int value = values[k];
            Due.refuses("on " + value, Due.UNSUPPORTED, () -> desk.request(0, 16, 0, 5));
            Due.answers("the book has it", value, () -> desk.entry(0, 3));
            Due.load(desk, "p;");
            Due.answers("nothing changed", 0, () -> desk.request(0, 0, 0, 0));
        }
        AccessDesk desk = new AccessDesk();
        desk.open(0, 0);
        Due.refuses("without a policy", Due.UNSUPPORTED, () -> desk.request(0, 0, 0, 0));
    }

    private static void dutiesThatAlwaysGo() {
        AccessDesk desk = deskWith("p+0123;");
        for (int hour = 0; hour < 24; hour++) {
            int asked = hour;
            Due.answers("at " + hour, asked, () -> desk.request(0, 16, asked, asked));
        }
    }

    private static void dutyFour() {
        AccessDesk desk = deskWith("p+4;");
        for (int k = 1; k <= 3; k++) {
            Due.answers("time " + k, k, () -> desk.request(0, 32, 0, 1));
        }
        Due.refuses("time 4", Due.UNSUPPORTED, () -> desk.request(0, 32, 0, 1));
        Due.answers("another session", 4, () -> desk.request(5, 32, 0, 1));
        Due.load(desk, "p;");
        Due.answers("without the duty", 5, () -> desk.request(0, 32, 0, 1));
        Due.load(desk, "p+4;");
        Due.refuses("with it", Due.UNSUPPORTED, () -> desk.request(0, 32, 0, 1));
        desk.close(0);
        desk.open(0, 0);
        Due.answers("opened anew", 6, () -> desk.request(0, 32, 0, 1));
        Due.load(desk, "d+4;");
        for (int k = 0; k < 4; k++) {
            Due.refuses("a deny", Due.UNSUPPORTED, () -> desk.request(0, 32, 0, 1));
        }
        Due.load(desk, "p+4;");
        Due.answers("a deny does not count", 7, () -> desk.request(0, 32, 0, 1));
        desk.decide(0, 2, 0, 0);
        Due.answers("nor does decide", 8, () -> desk.request(0, 32, 0, 1));
    }

    private static void dutyFive() {
        AccessDesk desk = deskWith("p+5;");
        for (int hour = 0; hour < 24; hour++) {
            int asked = hour;
            String due = hour >= 8 && hour <= 17 ? String.valueOf(hour) : Due.UNSUPPORTED;
            Due.refuses("at " + hour, due, () -> desk.request(0, 16, asked, asked));
        }
    }

    private static void dutiesThatNobodyKnows() {
        AccessDesk six = deskWith("p+6;");
        Due.refuses("6", Due.UNSUPPORTED, () -> six.request(0, 16, 9, 1));
        AccessDesk seven = deskWith("p+7;");
        Due.refuses("7", Due.UNSUPPORTED, () -> seven.request(0, 16, 9, 1));
    }

    private static void allOrNone() {
        AccessDesk desk = deskWith("F{p[a=9]+456;p+45;}");
        for (int k = 0; k < 5; k++) {
            Due.refuses("4 and 6", Due.UNSUPPORTED, () -> desk.request(0, 16 * 9, 9, 0));
            Due.refuses("4 and 5 at night", Due.UNSUPPORTED, () -> desk.request(0, 32, 7, 1));
        }
        for (int k = 1; k <= 3; k++) {
            Due.answers("4 and 5 by day", k, () -> desk.request(0, 32, 8, 1));
        }
        Due.refuses("4 a fourth time", Due.UNSUPPORTED, () -> desk.request(0, 32, 8, 1));
    }

    private static void valuesStay() {
        AccessDesk desk = deskWith("p;");
        desk.request(0, 16 + 3, 0, 42);
        desk.object(3, 9, 9, false);
        Due.answers("after object()", 42, () -> desk.request(0, 3, 0, 0));
        desk.close(0);
        Due.answers("of another session", 42, () -> desk.request(5, 3, 0, 0));
    }
}
