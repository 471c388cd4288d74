/** The edges of when a request is carried out, and what it does then. */
public final class RequestEdgeTest {
    private static final String COUNTED = "4 only when the session's COUNT (0 as it is opened) is below 3:"
            + " it grows by one";

    public static void main(String[] args) {
        onlyWhenTheDecisionIsPermit();
        zeroToThreeAlways();
        fourThreeTimes();
        fourOfEachSession();
        fourAsItIsOpened();
        fourGrowsByThoseCarriedOutAlone();
        fiveByDay();
        sixAndSevenNever();
        eachOfItsDuties();
        allOrNone();
        actionZero();
        actionOne();
        actionTwo();
        actionTwoAsAnInt();
        otherActions();
        refusedActions();
        Due.end();
    }

    private static AccessDesk deskWith(String text) {
        AccessDesk desk = new AccessDesk();
        desk.open(0, 0);
        desk.open(1, 0);
        Due.load(desk, text);
        Due.answers("place of " + text, -1, desk::place);
        return desk;
    }

    /** Adds 1 to object 0 at an hour: its value then, or the exception's name. */
    private static void adds(AccessDesk desk, int session, int hour, String due) {
        Due.refuses("request in " + session + " at " + hour, due, () -> desk.request(session, 32, hour, 1));
    }

    private static void onlyWhenTheDecisionIsPermit() {
        Due.sentence("A REQUEST is carried out when the decision is 1");
        String[] texts = {"p[c=1];", "p;", "d;", "p?L=1;", "d?L=1;", "D{p?L=1;d?L=1;}"};
        for (int value = 0; value < 6; value++) {
            AccessDesk desk = deskWith(texts[value]);
            int decision = value;
            adds(desk, 0, 9, value == 1 ? "1" : Due.UNSUPPORTED);
            Due.answers("its decision", decision, () -> desk.entry(0, 3));
            Due.answers("whether it was carried out", decision == 1 ? 1 : 0, () -> desk.entry(0, 5));
            Due.load(desk, "p;");
            Due.answers("the object's value", decision == 1 ? 1 : 0, () -> desk.request(0, 0, 9, 0));
        }
    }

    private static void zeroToThreeAlways() {
        Due.sentence("0 to 3 always");
        for (int duty = 0; duty < 4; duty++) {
            AccessDesk desk = deskWith("p+" + duty + ";");
            for (int hour = 0; hour < 24; hour++) {
                adds(desk, 0, hour, String.valueOf(hour + 1));
            }
        }
    }

    private static void fourThreeTimes() {
        Due.sentence(COUNTED);
        AccessDesk desk = deskWith("p+4;");
        adds(desk, 0, 0, "1");
        adds(desk, 0, 23, "2");
        adds(desk, 0, 12, "3");
        for (int k = 0; k < 5; k++) {
            adds(desk, 0, 12, Due.UNSUPPORTED);
        }
        Due.load(desk, "p+0123;");
        adds(desk, 0, 12, "4");
    }

    private static void fourOfEachSession() {
        Due.sentence(COUNTED);
        AccessDesk desk = deskWith("p+4;");
        for (int sum = 1; sum <= 6; sum += 2) {
            adds(desk, 0, 9, String.valueOf(sum));
            adds(desk, 1, 9, String.valueOf(sum + 1));
        }
        adds(desk, 0, 9, Due.UNSUPPORTED);
        adds(desk, 1, 9, Due.UNSUPPORTED);
    }

    private static void fourAsItIsOpened() {
        Due.sentence(COUNTED);
        AccessDesk desk = deskWith("p+4;");
        for (int sum = 1; sum <= 3; sum++) {
            adds(desk, 1, 9, String.valueOf(sum));
        }
        adds(desk, 1, 9, Due.UNSUPPORTED);
        Due.fails("it is open", Due.STATE, () -> desk.open(1, 0));
        adds(desk, 1, 9, Due.UNSUPPORTED);
        desk.close(1);
        desk.open(1, 3);
        for (int sum = 4; sum <= 6; sum++) {
            adds(desk, 1, 9, String.valueOf(sum));
        }
        adds(desk, 1, 9, Due.UNSUPPORTED);
    }

    private static void fourGrowsByThoseCarriedOutAlone() {
        Due.sentence(COUNTED);
        AccessDesk desk = deskWith("F{d[a=3]+4;p[a=4];p[a=5,L=1]+4;p+4;}");
        for (int k = 0; k < 4; k++) {
            Due.refuses("a deny", Due.UNSUPPORTED, () -> desk.request(0, 48, 9, 0));
            Due.answers("without the duty", 0, () -> desk.request(0, 64, 9, 0));
            Due.refuses("indeterminate", Due.UNSUPPORTED, () -> desk.request(0, 80, 9, 0));
            Due.answers("decide", 161, () -> desk.decide(0, 2, 0, 9));
        }
        for (int sum = 1; sum <= 3; sum++) {
            adds(desk, 0, 9, String.valueOf(sum));
        }
        adds(desk, 0, 9, Due.UNSUPPORTED);
    }

    private static void fiveByDay() {
        Due.sentence("5 only when the request's hour is 8 .. 17");
        AccessDesk desk = deskWith("p+5;");
        for (int hour = 0; hour < 24; hour++) {
            boolean isDay = hour >= 8 && hour <= 17;
            adds(desk, 0, hour, isDay ? String.valueOf(hour - 7) : Due.UNSUPPORTED);
        }
    }

    private static void sixAndSevenNever() {
        Due.sentence("6 and 7 never (nobody knows them)");
        for (String duties : new String[] {"6", "7", "67", "06", "17"}) {
            AccessDesk desk = deskWith("p+" + duties + ";");
            for (int hour = 0; hour < 24; hour++) {
                adds(desk, 0, hour, Due.UNSUPPORTED);
            }
        }
    }

    private static void eachOfItsDuties() {
        Due.sentence("and each of its duties can be fulfilled");
        AccessDesk desk = deskWith("F{p[a=2]+0;}+5");
        adds(desk, 0, 7, Due.UNSUPPORTED);
        adds(desk, 0, 8, "1");
        AccessDesk denying = deskWith("F{p[a=2]+0;}+1-67");
        adds(denying, 0, 7, "1");
        AccessDesk both = deskWith("P{p+0;p+6;}");
        adds(both, 0, 9, Due.UNSUPPORTED);
    }

    private static void allOrNone() {
        Due.sentence("All or none are fulfilled");
        AccessDesk desk = deskWith("F{p[a=3]+46;p[a=4]+47;p+45;}");
        for (int k = 0; k < 4; k++) {
            Due.refuses("4 and 6", Due.UNSUPPORTED, () -> desk.request(0, 48, 9, 0));
            Due.refuses("4 and 7", Due.UNSUPPORTED, () -> desk.request(0, 64, 9, 0));
            adds(desk, 0, 7, Due.UNSUPPORTED);
            adds(desk, 0, 18, Due.UNSUPPORTED);
        }
        for (int sum = 1; sum <= 3; sum++) {
            adds(desk, 0, 17, String.valueOf(sum));
        }
        adds(desk, 0, 17, Due.UNSUPPORTED);
    }

    private static void actionZero() {
        Due.sentence("Carried out, action 0 answers the object's value");
        AccessDesk desk = deskWith("p;");
        Due.answers("at first", 0, () -> desk.request(0, 7, 0, 55));
        desk.request(0, 16 + 7, 0, -1);
        Due.answers("then", -1, () -> desk.request(0, 7, 0, 55));
        Due.answers("and again", -1, () -> desk.request(1, 7, 23, 56));
        Due.answers("of another object", 0, () -> desk.request(0, 8, 0, 55));
    }

    private static void actionOne() {
        Due.sentence("1 puts a value there");
        AccessDesk desk = deskWith("p;");
        for (int value : new int[] {5, 0, -5, Integer.MAX_VALUE, Integer.MIN_VALUE}) {
            Due.answers("put", value, () -> desk.request(0, 16 + 15, 0, value));
            Due.answers("it is there", value, () -> desk.request(0, 15, 0, 1));
        }
    }

    private static void actionTwo() {
        Due.sentence("2 adds to it");
        AccessDesk desk = deskWith("p;");
        Due.answers("to 0", 5, () -> desk.request(0, 32 + 15, 0, 5));
        Due.answers("to 5", 3, () -> desk.request(0, 32 + 15, 0, -2));
        Due.answers("nothing", 3, () -> desk.request(0, 32 + 15, 0, 0));
        Due.answers("of another object", 0, () -> desk.request(0, 14, 0, 0));
        Due.answers("it is there", 3, () -> desk.request(0, 15, 0, 0));
    }

    private static void actionTwoAsAnInt() {
        Due.sentence("2 adds to it (as an int)");
        AccessDesk desk = deskWith("p;");
        desk.request(0, 16, 0, Integer.MAX_VALUE);
        Due.answers("over the top", Integer.MIN_VALUE, () -> desk.request(0, 32, 0, 1));
        Due.answers("and back", Integer.MAX_VALUE, () -> desk.request(0, 32, 0, -1));
        Due.answers("twice the top", -2, () -> desk.request(0, 32, 0, Integer.MAX_VALUE));
        desk.request(0, 16, 0, Integer.MIN_VALUE);
        Due.answers("twice the bottom", 0, () -> desk.request(0, 32, 0, Integer.MIN_VALUE));
    }

    private static void otherActions() {
        Due.sentence("others do nothing");
        AccessDesk desk = deskWith("p;");
        desk.request(0, 16, 0, 77);
        for (int action = 3; action <= 9; action++) {
            int asked = action;
            Due.answers("action " + action, 77, () -> desk.request(0, 16 * asked, 0, 5));
            Due.answers("after it", 77, () -> desk.request(0, 0, 0, 5));
        }
    }

    private static void refusedActions() {
        Due.sentence("touched only on a permit whose duties can be fulfilled");
        AccessDesk desk = deskWith("p;");
        desk.request(0, 16, 0, 77);
        Due.load(desk, "F{p+6;}");
        Due.refuses("put", Due.UNSUPPORTED, () -> desk.request(0, 16, 9, 5));
        Due.refuses("add", Due.UNSUPPORTED, () -> desk.request(0, 32, 9, 5));
        Due.load(desk, "d;");
        Due.refuses("put", Due.UNSUPPORTED, () -> desk.request(0, 16, 9, 5));
        Due.refuses("no such hour", Due.ARGUMENT, () -> desk.request(0, 16, 24, 5));
        Due.refuses("closed", Due.STATE, () -> desk.request(2, 16, 9, 5));
        Due.load(desk, "p;");
        Due.answers("the value stays", 77, () -> desk.request(0, 0, 0, 5));
    }
}
