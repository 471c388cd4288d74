/** Promises 8 to 11: open, close, activate, holds. */
public final class SessionsTest {
    public static void main(String[] args) {
        openAndClose();
        openIsRefused();
        activateIsRefused();
        activateAndTakeOut();
        activateWithinBounds();
        reopenedIsEmpty();
        Due.end();
    }

    private static void openAndClose() {
        AccessDesk desk = new AccessDesk();
        for (int session = 0; session < 6; session++) {
            int asked = session;
            Due.answers("holds at first", -1, () -> desk.holds(asked));
            Due.fails("close at first", Due.STATE, () -> desk.close(asked));
            Due.works("open", () -> desk.open(asked, 7 - asked));
            Due.answers("holds when open", 0, () -> desk.holds(asked));
            Due.fails("open again", Due.STATE, () -> desk.open(asked, 0));
        }
        Due.works("close", () -> desk.close(4));
        Due.answers("holds when closed", -1, () -> desk.holds(4));
        Due.fails("close again", Due.STATE, () -> desk.close(4));
        Due.answers("another one", 0, () -> desk.holds(5));
    }

    private static void openIsRefused() {
        AccessDesk desk = new AccessDesk();
        Due.fails("open(-1, 0)", Due.ARGUMENT, () -> desk.open(-1, 0));
        Due.fails("open(6, 0)", Due.ARGUMENT, () -> desk.open(6, 0));
        Due.fails("open(0, -1)", Due.ARGUMENT, () -> desk.open(0, -1));
        Due.fails("open(0, 8)", Due.ARGUMENT, () -> desk.open(0, 8));
        desk.open(0, 0);
        Due.fails("open, and no such user", Due.ARGUMENT, () -> desk.open(0, 8));
        Due.fails("close(-1)", Due.ARGUMENT, () -> desk.close(-1));
        Due.fails("close(6)", Due.ARGUMENT, () -> desk.close(6));
        Due.refuses("holds(-1)", Due.ARGUMENT, () -> desk.holds(-1));
        Due.refuses("holds(6)", Due.ARGUMENT, () -> desk.holds(6));
    }

    private static void activateIsRefused() {
        AccessDesk desk = new AccessDesk();
        Due.fails("activate(-1, 0)", Due.ARGUMENT, () -> desk.activate(-1, 0, true));
        Due.fails("activate(6, 0)", Due.ARGUMENT, () -> desk.activate(6, 0, true));
        Due.fails("activate(0, -1)", Due.ARGUMENT, () -> desk.activate(0, -1, false));
        Due.fails("activate(0, 12)", Due.ARGUMENT, () -> desk.activate(0, 12, false));
        Due.fails("closed, on", Due.STATE, () -> desk.activate(0, 0, true));
        Due.fails("closed, off", Due.STATE, () -> desk.activate(0, 0, false));
        desk.open(0, 0);
        desk.assign(1, 0);
        Due.fails("another user's role", Due.STATE, () -> desk.activate(0, 0, true));
        Due.answers("nothing changed", 0, () -> desk.holds(0));
        Due.fails("out already", Due.STATE, () -> desk.activate(0, 0, false));
    }

    private static void activateAndTakeOut() {
        AccessDesk desk = new AccessDesk();
        desk.open(2, 3);
        desk.assign(3, 11);
        desk.senior(11, 10);
        desk.senior(10, 0);
        Due.works("a junior role", () -> desk.activate(2, 10, true));
        Due.answers("it and what it is senior to", 1 << 10 | 1, () -> desk.holds(2));
        Due.fails("in already", Due.STATE, () -> desk.activate(2, 10, true));
        Due.fails("held, but not activated", Due.STATE, () -> desk.activate(2, 0, false));
        Due.works("held, and now activated", () -> desk.activate(2, 0, true));
        Due.works("out", () -> desk.activate(2, 10, false));
        Due.answers("what stays", 1, () -> desk.holds(2));
        Due.fails("out already", Due.STATE, () -> desk.activate(2, 10, false));
        Due.works("the role itself", () -> desk.activate(2, 11, true));
        Due.answers("all", 1 << 11 | 1 << 10 | 1, () -> desk.holds(2));
    }

    private static void activateWithinBounds() {
        AccessDesk desk = new AccessDesk();
        desk.open(0, 0);
        desk.open(1, 0);
        desk.senior(2, 3);
        for (int role = 0; role < 3; role++) {
            desk.assign(0, role);
        }
        desk.bound(true, 1 | 1 << 1 | 1 << 3, 2);
        Due.works("one", () -> desk.activate(0, 0, true));
        Due.fails("two", Due.STATE, () -> desk.activate(0, 1, true));
        Due.fails("two by a junior role", Due.STATE, () -> desk.activate(0, 2, true));
        Due.answers("nothing changed", 1, () -> desk.holds(0));
        Due.works("in another session", () -> desk.activate(1, 2, true));
        Due.works("out", () -> desk.activate(0, 0, false));
        Due.works("then another", () -> desk.activate(0, 1, true));
    }

    private static void reopenedIsEmpty() {
        AccessDesk desk = new AccessDesk();
        desk.assign(0, 0);
        desk.assign(1, 1);
        desk.open(0, 0);
        desk.activate(0, 0, true);
        desk.close(0);
        desk.open(0, 1);
        Due.answers("nothing of the former one", 0, () -> desk.holds(0));
        Due.fails("not the former user's", Due.STATE, () -> desk.activate(0, 0, true));
        Due.works("the new user's", () -> desk.activate(0, 1, true));
    }
}
