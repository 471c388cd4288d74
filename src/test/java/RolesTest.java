/** Promises 2 to 6 and 12: senior, unsenior, assign, withdraw, bound, authorized. */
public final class RolesTest {
    public static void main(String[] args) {
        seniorAddsRoles();
        seniorIsRefused();
        seniorWithinBounds();
        unseniorTakesRoles();
        assignGivesRoles();
        assignWithinBounds();
        withdrawTakesRoles();
        boundIsNumbered();
        boundIsRefused();
        boundMayNotBeBrokenNow();
        authorizedOfUsers();
        Due.end();
    }

    private static void seniorAddsRoles() {
        AccessDesk desk = new AccessDesk();
        desk.assign(7, 11);
        desk.open(5, 7);
        desk.activate(5, 11, true);
        for (int role = 11; role > 0; role--) {
            desk.senior(role, role - 1);
        }
        Due.answers("authorized by eleven steps", 4095, () -> desk.authorized(7));
        Due.answers("held by eleven steps", 4095, () -> desk.holds(5));
        Due.works("a direct way beside a longer one", () -> desk.senior(11, 0));
        desk.unsenior(5, 4);
        Due.answers("what stays by the direct way", 4095 & ~0x1e, () -> desk.authorized(7));
    }

    private static void seniorIsRefused() {
        AccessDesk desk = new AccessDesk();
        Due.fails("senior(-1, 0)", Due.ARGUMENT, () -> desk.senior(-1, 0));
        Due.fails("senior(12, 0)", Due.ARGUMENT, () -> desk.senior(12, 0));
        Due.fails("senior(0, -1)", Due.ARGUMENT, () -> desk.senior(0, -1));
        Due.fails("senior(0, 12)", Due.ARGUMENT, () -> desk.senior(0, 12));
        Due.fails("senior(3, 3)", Due.ARGUMENT, () -> desk.senior(3, 3));
        Due.works("senior(0, 11)", () -> desk.senior(0, 11));
        Due.fails("the same again", Due.STATE, () -> desk.senior(0, 11));
        Due.fails("the other way round", Due.STATE, () -> desk.senior(11, 0));
        desk.senior(11, 5);
        desk.senior(5, 7);
        Due.fails("round by three steps", Due.STATE, () -> desk.senior(7, 0));
        Due.works("not round", () -> desk.senior(0, 7));
        desk.unsenior(11, 5);
        Due.fails("still round by the direct step", Due.STATE, () -> desk.senior(7, 0));
        desk.unsenior(0, 7);
        Due.works("not round any more", () -> desk.senior(7, 0));
    }

    private static void seniorWithinBounds() {
        AccessDesk desk = new AccessDesk();
        desk.assign(2, 1);
        desk.assign(2, 4);
        desk.senior(4, 5);
        desk.open(3, 2);
        desk.activate(3, 1, true);
        desk.bound(false, 1 << 1 | 1 << 5 | 1 << 6, 3);
        Due.fails("a static bound of authorized roles", Due.STATE, () -> desk.senior(5, 6));
        Due.answers("nothing changed", 1 << 1 | 1 << 4 | 1 << 5, () -> desk.authorized(2));
        Due.fails("it did not become senior", Due.STATE, () -> desk.unsenior(5, 6));
        desk.bound(true, 1 << 1 | 1 << 8, 2);
        Due.fails("a dynamic bound of a session", Due.STATE, () -> desk.senior(1, 8));
        Due.answers("nothing changed in the session", 1 << 1, () -> desk.holds(3));
        Due.works("not held, so not bound", () -> desk.senior(4, 8));
        Due.fails("held then", Due.STATE, () -> desk.activate(3, 4, true));
        desk.activate(3, 1, false);
        Due.works("alone", () -> desk.activate(3, 4, true));
        desk.close(3);
        Due.works("a closed session holds none", () -> desk.senior(1, 8));
    }

    private static void unseniorTakesRoles() {
        AccessDesk desk = new AccessDesk();
        Due.fails("unsenior(-1, 0)", Due.ARGUMENT, () -> desk.unsenior(-1, 0));
        Due.fails("unsenior(12, 0)", Due.ARGUMENT, () -> desk.unsenior(12, 0));
        Due.fails("unsenior(0, -1)", Due.ARGUMENT, () -> desk.unsenior(0, -1));
        Due.fails("unsenior(0, 12)", Due.ARGUMENT, () -> desk.unsenior(0, 12));
        Due.fails("of one role", Due.STATE, () -> desk.unsenior(3, 3));
        Due.fails("that it never was", Due.STATE, () -> desk.unsenior(1, 2));
        desk.senior(1, 2);
        desk.senior(2, 3);
        Due.fails("that it is by a way alone", Due.STATE, () -> desk.unsenior(1, 3));
        Due.fails("the other way round", Due.STATE, () -> desk.unsenior(2, 1));
        desk.assign(0, 1);
        desk.assign(1, 1);
        desk.assign(1, 3);
        for (int session = 0; session < 2; session++) {
            desk.open(session, session);
            desk.activate(session, 1, true);
            desk.activate(session, 3, true);
        }
        Due.works("unsenior(2, 3)", () -> desk.unsenior(2, 3));
        Due.answers("authorized for less", 6, () -> desk.authorized(0));
        Due.answers("an activated role is lost", 6, () -> desk.holds(0));
        Due.answers("one that is assigned stays", 14, () -> desk.holds(1));
        desk.senior(2, 3);
        desk.activate(0, 1, false);
        Due.answers("what was lost does not come back", 0, () -> desk.holds(0));
    }

    private static void assignGivesRoles() {
        AccessDesk desk = new AccessDesk();
        Due.fails("assign(-1, 0)", Due.ARGUMENT, () -> desk.assign(-1, 0));
        Due.fails("assign(8, 0)", Due.ARGUMENT, () -> desk.assign(8, 0));
        Due.fails("assign(0, -1)", Due.ARGUMENT, () -> desk.assign(0, -1));
        Due.fails("assign(0, 12)", Due.ARGUMENT, () -> desk.assign(0, 12));
        Due.works("assign(7, 11)", () -> desk.assign(7, 11));
        Due.fails("again", Due.STATE, () -> desk.assign(7, 11));
        desk.senior(11, 0);
        Due.works("one that the user is authorized for", () -> desk.assign(7, 0));
        desk.withdraw(7, 11);
        Due.answers("it was assigned itself", 1, () -> desk.authorized(7));
    }

    private static void assignWithinBounds() {
        AccessDesk desk = new AccessDesk();
        desk.senior(0, 1);
        desk.bound(false, 1 << 1 | 1 << 2, 2);
        desk.bound(true, 1 << 1 | 1 << 3, 2);
        desk.assign(0, 2);
        Due.fails("by a junior role", Due.STATE, () -> desk.assign(0, 0));
        Due.answers("nothing changed", 1 << 2, () -> desk.authorized(0));
        Due.works("of another user", () -> desk.assign(1, 0));
        Due.works("a dynamic bound does not count", () -> desk.assign(1, 3));
    }

    private static void withdrawTakesRoles() {
        AccessDesk desk = new AccessDesk();
        Due.fails("withdraw(-1, 0)", Due.ARGUMENT, () -> desk.withdraw(-1, 0));
        Due.fails("withdraw(8, 0)", Due.ARGUMENT, () -> desk.withdraw(8, 0));
        Due.fails("withdraw(0, -1)", Due.ARGUMENT, () -> desk.withdraw(0, -1));
        Due.fails("withdraw(0, 12)", Due.ARGUMENT, () -> desk.withdraw(0, 12));
        Due.fails("not assigned", Due.STATE, () -> desk.withdraw(0, 0));
        desk.senior(4, 5);
        desk.senior(6, 5);
        desk.assign(0, 4);
        desk.assign(0, 6);
        desk.assign(1, 4);
        Due.fails("authorized for, not assigned", Due.STATE, () -> desk.withdraw(0, 5));
        for (int session = 0; session < 3; session++) {
            desk.open(session, session == 2 ? 1 : 0);
            desk.activate(session, 5, true);
            desk.activate(session, 4, true);
        }
        Due.works("withdraw(0, 4)", () -> desk.withdraw(0, 4));
        Due.answers("authorized", 1 << 5 | 1 << 6, () -> desk.authorized(0));
        Due.answers("5 stays by way of 6", 1 << 5, () -> desk.holds(0));
        Due.answers("in all sessions", 1 << 5, () -> desk.holds(1));
        Due.answers("not of another user", 1 << 4 | 1 << 5, () -> desk.holds(2));
        desk.withdraw(0, 6);
        Due.answers("5 is lost too", 0, () -> desk.holds(0));
        Due.fails("again", Due.STATE, () -> desk.withdraw(0, 6));
    }

    private static void boundIsNumbered() {
        AccessDesk desk = new AccessDesk();
        for (int number = 0; number < 6; number++) {
            boolean dynamic = number % 2 == 0;
            Due.answers("bound " + number, number, () -> desk.bound(dynamic, 4095, 6));
        }
        Due.refuses("a seventh", Due.STATE, () -> desk.bound(true, 4095, 6));
        Due.refuses("a seventh that is none", Due.ARGUMENT, () -> desk.bound(true, 4096, 6));
        for (int role = 0; role < 5; role++) {
            desk.assign(4, role);
        }
        Due.fails("six of them", Due.STATE, () -> desk.assign(4, 11));
    }

    private static void boundIsRefused() {
        AccessDesk desk = new AccessDesk();
        for (int roles : new int[] {-1, 4096, 4097, Integer.MIN_VALUE, Integer.MAX_VALUE}) {
            Due.refuses("of roles " + roles, Due.ARGUMENT, () -> desk.bound(true, roles, 2));
        }
        for (int n : new int[] {-1, 0, 1, 7, Integer.MAX_VALUE, Integer.MIN_VALUE}) {
            Due.refuses("of " + n, Due.ARGUMENT, () -> desk.bound(false, 4095, n));
        }
        Due.refuses("too few roles", Due.ARGUMENT, () -> desk.bound(false, 7, 4));
        Due.refuses("no roles", Due.ARGUMENT, () -> desk.bound(false, 0, 2));
        Due.answers("just so many roles", 0, () -> desk.bound(false, 7, 3));
        Due.answers("the least", 1, () -> desk.bound(true, 3, 2));
    }

    private static void boundMayNotBeBrokenNow() {
        AccessDesk desk = new AccessDesk();
        desk.senior(0, 1);
        desk.assign(7, 0);
        desk.open(5, 7);
        Due.refuses("static, by a junior role", Due.STATE, () -> desk.bound(false, 3, 2));
        Due.answers("dynamic, as nothing is held", 0, () -> desk.bound(true, 7, 2));
        Due.fails("held by a junior role", Due.STATE, () -> desk.activate(5, 0, true));
        Due.works("the junior role", () -> desk.activate(5, 1, true));
        desk.assign(7, 3);
        desk.activate(5, 3, true);
        Due.refuses("dynamic", Due.STATE, () -> desk.bound(true, 1 << 1 | 1 << 3, 2));
        Due.answers("dynamic, of three", 1, () -> desk.bound(true, 1 << 1 | 1 << 3 | 1 << 4, 3));
        desk.close(5);
        Due.answers("of a closed session", 2, () -> desk.bound(true, 1 << 1 | 1 << 3, 2));
    }

    private static void authorizedOfUsers() {
        AccessDesk desk = new AccessDesk();
        Due.refuses("authorized(-1)", Due.ARGUMENT, () -> desk.authorized(-1));
        Due.refuses("authorized(8)", Due.ARGUMENT, () -> desk.authorized(8));
        for (int user = 0; user < 8; user++) {
            int asked = user;
            Due.answers("authorized(" + user + ") at first", 0, () -> desk.authorized(asked));
        }
        desk.assign(3, 9);
        desk.senior(9, 2);
        Due.answers("of the user", 1 << 9 | 1 << 2, () -> desk.authorized(3));
        Due.answers("of another", 0, () -> desk.authorized(4));
    }
}
