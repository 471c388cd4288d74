/** The edges of the document's terms of seniors, bounds, and what sessions hold and lose. */
public final class BoundEdgeTest {
    private static final int ALL_ROLES = 4095;
    private static final String TAKES = "what takes a role from a user (or a senior from a role) takes"
            + " from sessions, at once, activated roles that the user is not authorized for any more";

    public static void main(String[] args) {
        noRoleIsSeniorToItself();
        everyOtherPairMayBe();
        authorizedByWhateverWay();
        atMostSix();
        eachOfSixCounts();
        bitsOfRoles();
        numbersOfRoles();
        staticBounds();
        staticBoundsOfJuniors();
        dynamicBounds();
        dynamicBoundsOfJuniors();
        boundsOfTheOtherKind();
        sessionsHold();
        refusedAssign();
        refusedSenior();
        refusedActivate();
        refusedBound();
        withdrawnRolesAreTaken();
        partedRolesAreTaken();
        takenAtOnceAndForGood();
        Due.end();
    }

    private static void assignFirst(AccessDesk desk, int user, int many) {
        for (int role = 0; role < many; role++) {
            desk.assign(user, role);
        }
    }

    private static void noRoleIsSeniorToItself() {
        Due.sentence("no role to itself, by whatever way");
        for (int length = 1; length <= 12; length++) {
            AccessDesk desk = new AccessDesk();
            int last = length - 1;
            for (int role = 0; role < last; role++) {
                desk.senior(role, role + 1);
            }
            desk.assign(0, last);
            String due = length == 1 ? Due.ARGUMENT : Due.STATE;
            Due.refusesUnchanged(desk, "a circle of " + length, due, () -> desk.senior(last, 0));
            Due.fails("it did not become senior", Due.STATE, () -> desk.unsenior(last, 0));
        }
    }

    private static void everyOtherPairMayBe() {
        Due.sentence("A role may be SENIOR to others");
        AccessDesk desk = new AccessDesk();
        for (int role = 0; role < 12; role++) {
            for (int other = role + 1; other < 12; other++) {
                int asked = role;
                int junior = other;
                Due.works("senior", () -> desk.senior(asked, junior));
                Due.fails("the other way round", Due.STATE, () -> desk.senior(junior, asked));
            }
        }
        desk.assign(0, 6);
        Due.answers("authorized", ALL_ROLES & ~63, () -> desk.authorized(0));
    }

    private static void authorizedByWhateverWay() {
        Due.sentence("who is assigned a role is AUTHORIZED for it and all that it is senior to,"
                + " by whatever way");
        int[] order = {7, 0, 11, 4, 9, 1, 6, 3, 10, 2, 8, 5};
        AccessDesk desk = new AccessDesk();
        desk.assign(0, order[0]);
        int due = 1 << order[0];
        for (int k = 0; k < 11; k++) {
            desk.senior(order[k], order[k + 1]);
            due |= 1 << order[k + 1];
            int authorized = due;
            Due.answers("by " + (k + 1) + " steps", authorized, () -> desk.authorized(0));
        }
        AccessDesk square = new AccessDesk();
        square.assign(7, 0);
        square.senior(0, 1);
        square.senior(0, 2);
        square.senior(1, 3);
        square.senior(2, 3);
        square.unsenior(1, 3);
        Due.answers("by the other way", 15, () -> square.authorized(7));
        square.unsenior(0, 2);
        Due.answers("by no way", 3, () -> square.authorized(7));
        Due.answers("not upwards", 0, () -> square.authorized(0));
        square.assign(0, 1);
        Due.answers("of a junior role alone", 2, () -> square.authorized(0));
    }

    private static void atMostSix() {
        Due.sentence("BOUNDS (at most 6)");
        AccessDesk desk = new AccessDesk();
        for (int number = 0; number < 6; number++) {
            boolean dynamic = number >= 3;
            Due.answers("bound", number, () -> desk.bound(dynamic, 3, 2));
        }
        Due.refuses("a seventh", Due.STATE, () -> desk.bound(false, 12, 2));
        Due.refuses("a dynamic seventh", Due.STATE, () -> desk.bound(true, 12, 2));
        desk.assign(0, 2);
        Due.works("the seventh does not count", () -> desk.assign(0, 3));
    }

    private static void eachOfSixCounts() {
        Due.sentence("What would break a bound is refused");
        AccessDesk desk = new AccessDesk();
        AccessDesk dynamic = new AccessDesk();
        dynamic.open(5, 0);
        for (int k = 0; k < 6; k++) {
            desk.bound(false, 3 << 2 * k, 2);
            dynamic.bound(true, 3 << 2 * k, 2);
        }
        for (int k = 0; k < 6; k++) {
            int role = 2 * k;
            Due.works("one of a pair", () -> desk.assign(0, role));
            Due.fails("both of pair " + k, Due.STATE, () -> desk.assign(0, role + 1));
            dynamic.assign(0, role);
            dynamic.assign(0, role + 1);
            Due.works("one of a pair held", () -> dynamic.activate(5, role + 1, true));
            Due.fails("both of pair " + k + " held", Due.STATE, () -> dynamic.activate(5, role, true));
        }
    }

    private static void bitsOfRoles() {
        Due.sentence("a set of roles (bit r for role r)");
        for (int role = 0; role < 12; role++) {
            int next = (role + 1) % 12;
            int set = 1 << role | 1 << next;
            AccessDesk desk = new AccessDesk();
            Due.answers("bound", 0, () -> desk.bound(false, set, 2));
            for (int other = 0; other < 12; other++) {
                int asked = other;
                if (other != next) {
                    Due.works("role " + other, () -> desk.assign(0, asked));
                }
            }
            Due.fails("the set's other role", Due.STATE, () -> desk.assign(0, next));
        }
        AccessDesk desk = new AccessDesk();
        Due.refuses("a thirteenth bit", Due.ARGUMENT, () -> desk.bound(false, 1 << 12 | 3, 2));
        Due.refuses("the highest bit", Due.ARGUMENT, () -> desk.bound(false, Integer.MIN_VALUE | 3, 2));
        Due.answers("all twelve", 0, () -> desk.bound(false, ALL_ROLES, 2));
    }

    private static void numbersOfRoles() {
        Due.sentence("and a number n 2 .. 6");
        AccessDesk desk = new AccessDesk();
        for (int n : new int[] {Integer.MIN_VALUE, -2, 0, 1, 7, 12, 258, Integer.MAX_VALUE}) {
            Due.refuses("n " + n, Due.ARGUMENT, () -> desk.bound(false, ALL_ROLES, n));
            Due.refuses("dynamic, n " + n, Due.ARGUMENT, () -> desk.bound(true, ALL_ROLES, n));
        }
        for (int n = 2; n <= 6; n++) {
            int asked = n;
            Due.answers("n " + n, n - 2, () -> desk.bound(asked % 2 == 0, ALL_ROLES, asked));
        }
    }

    private static void staticBounds() {
        Due.sentence("STATIC: no user may be authorized for n of them or more");
        for (int n = 2; n <= 6; n++) {
            for (int user = 0; user < 8; user += 7) {
                AccessDesk desk = new AccessDesk();
                int asked = user;
                int last = n - 1;
                desk.bound(false, 0x7f, n);
                for (int role = 0; role < last; role++) {
                    int given = role;
                    Due.works("fewer than " + n, () -> desk.assign(asked, given));
                }
                Due.fails("just " + n, Due.STATE, () -> desk.assign(asked, last));
                Due.fails("another one", Due.STATE, () -> desk.assign(asked, 6));
                Due.works("one outside", () -> desk.assign(asked, 7));
                Due.works("another user", () -> desk.assign(7 - asked, last));
                desk.withdraw(user, 0);
                Due.works("in place of another", () -> desk.assign(asked, last));
            }
        }
    }

    private static void staticBoundsOfJuniors() {
        Due.sentence("STATIC: no user may be authorized for n of them or more");
        AccessDesk desk = new AccessDesk();
        desk.bound(false, 7, 3);
        desk.senior(8, 0);
        desk.senior(8, 1);
        desk.senior(9, 2);
        Due.works("two by one role", () -> desk.assign(3, 8));
        Due.fails("the third by another", Due.STATE, () -> desk.assign(3, 9));
        Due.fails("the third by a senior", Due.STATE, () -> desk.senior(0, 2));
        Due.fails("by a senior of a senior", Due.STATE, () -> desk.senior(1, 9));
        Due.works("who has none of them", () -> desk.assign(4, 9));
    }

    private static void dynamicBounds() {
        Due.sentence("DYNAMIC: no session may hold n of them or more");
        for (int n = 2; n <= 6; n++) {
            for (int session = 0; session < 6; session += 5) {
                AccessDesk desk = new AccessDesk();
                int asked = session;
                int last = n - 1;
                assignFirst(desk, 0, 8);
                desk.open(session, 0);
                desk.open(5 - session, 0);
                desk.bound(true, 0x7f, n);
                for (int role = 0; role < last; role++) {
                    int given = role;
                    Due.works("fewer than " + n, () -> desk.activate(asked, given, true));
                }
                Due.fails("just " + n, Due.STATE, () -> desk.activate(asked, last, true));
                Due.fails("another one", Due.STATE, () -> desk.activate(asked, 6, true));
                Due.works("one outside", () -> desk.activate(asked, 7, true));
                Due.works("another session", () -> desk.activate(5 - asked, last, true));
                desk.activate(session, 0, false);
                Due.works("in place of another", () -> desk.activate(asked, last, true));
            }
        }
    }

    private static void dynamicBoundsOfJuniors() {
        Due.sentence("DYNAMIC: no session may hold n of them or more");
        AccessDesk desk = new AccessDesk();
        desk.bound(true, 7, 3);
        desk.senior(8, 0);
        desk.senior(8, 1);
        desk.senior(9, 2);
        desk.assign(3, 8);
        desk.assign(3, 9);
        desk.open(2, 3);
        Due.works("two by one role", () -> desk.activate(2, 8, true));
        Due.fails("the third by another", Due.STATE, () -> desk.activate(2, 9, true));
        Due.fails("the third by a senior", Due.STATE, () -> desk.senior(0, 2));
        Due.fails("by a senior of a senior", Due.STATE, () -> desk.senior(1, 9));
        desk.open(4, 3);
        Due.works("in a session that holds none of them", () -> desk.activate(4, 9, true));
    }

    private static void boundsOfTheOtherKind() {
        Due.sentence("or DYNAMIC");
        AccessDesk desk = new AccessDesk();
        desk.bound(true, 3, 2);
        assignFirst(desk, 0, 2);
        Due.answers("a dynamic one leaves users alone", 3, () -> desk.authorized(0));
        desk.open(0, 0);
        desk.open(1, 0);
        Due.works("one role here", () -> desk.activate(0, 0, true));
        Due.works("the other one there", () -> desk.activate(1, 1, true));
        AccessDesk still = new AccessDesk();
        still.assign(0, 0);
        still.assign(1, 1);
        still.bound(false, 3, 2);
        still.open(0, 0);
        still.activate(0, 0, true);
        still.open(1, 1);
        Due.works("a static one is of each user alone", () -> still.activate(1, 1, true));
    }

    private static void sessionsHold() {
        Due.sentence("A session HOLDS the roles activated in it, and all that these are senior to");
        AccessDesk desk = new AccessDesk();
        assignFirst(desk, 0, 12);
        desk.open(0, 0);
        Due.answers("none at first", 0, () -> desk.holds(0));
        for (int role = 0; role < 11; role++) {
            desk.senior(role, role + 1);
        }
        for (int role = 11; role >= 0; role--) {
            int due = ALL_ROLES >> role << role;
            desk.activate(0, role, true);
            Due.answers("from " + role + " on", due, () -> desk.holds(0));
            desk.activate(0, role, false);
            Due.answers("none again", 0, () -> desk.holds(0));
        }
        desk.activate(0, 0, true);
        desk.unsenior(5, 6);
        Due.answers("up to the gap", 63, () -> desk.holds(0));
    }

    private static void refusedAssign() {
        Due.sentence("What would break a bound is refused");
        AccessDesk desk = new AccessDesk();
        desk.bound(false, 3, 2);
        desk.assign(2, 0);
        Due.refusesUnchanged(desk, "assign", Due.STATE, () -> desk.assign(2, 1));
        Due.fails("it was not assigned", Due.STATE, () -> desk.withdraw(2, 1));
        desk.withdraw(2, 0);
        Due.works("now it may be", () -> desk.assign(2, 1));
    }

    private static void refusedSenior() {
        Due.sentence("What would break a bound is refused");
        AccessDesk desk = new AccessDesk();
        desk.assign(2, 0);
        desk.assign(3, 4);
        desk.open(1, 3);
        desk.activate(1, 4, true);
        desk.bound(false, 3, 2);
        desk.bound(true, 48, 2);
        Due.refusesUnchanged(desk, "senior by a static one", Due.STATE, () -> desk.senior(0, 1));
        Due.fails("it did not become senior", Due.STATE, () -> desk.unsenior(0, 1));
        Due.refusesUnchanged(desk, "senior by a dynamic one", Due.STATE, () -> desk.senior(4, 5));
        Due.fails("nor this one", Due.STATE, () -> desk.unsenior(4, 5));
        desk.withdraw(2, 0);
        desk.activate(1, 4, false);
        Due.works("now the first may be", () -> desk.senior(0, 1));
        Due.works("and the second", () -> desk.senior(4, 5));
        Due.fails("then the role is refused", Due.STATE, () -> desk.assign(2, 0));
        Due.fails("and this one in a session", Due.STATE, () -> desk.activate(1, 4, true));
    }

    private static void refusedActivate() {
        Due.sentence("What would break a bound is refused");
        AccessDesk desk = new AccessDesk();
        assignFirst(desk, 2, 2);
        desk.open(1, 2);
        desk.bound(true, 3, 2);
        desk.activate(1, 0, true);
        Due.refusesUnchanged(desk, "activate", Due.STATE, () -> desk.activate(1, 1, true));
        Due.fails("it was not activated", Due.STATE, () -> desk.activate(1, 1, false));
        desk.activate(1, 0, false);
        Due.works("now it may be", () -> desk.activate(1, 1, true));
    }

    private static void refusedBound() {
        Due.sentence("What would break a bound is refused");
        AccessDesk desk = new AccessDesk();
        assignFirst(desk, 7, 3);
        desk.open(5, 7);
        desk.activate(5, 1, true);
        desk.activate(5, 2, true);
        Due.refusesUnchanged(desk, "a static bound", Due.STATE, () -> desk.bound(false, 15, 3));
        Due.refusesUnchanged(desk, "a dynamic bound", Due.STATE, () -> desk.bound(true, 15, 2));
        Due.answers("a static one that just holds", 0, () -> desk.bound(false, 15, 4));
        Due.answers("a dynamic one that just holds", 1, () -> desk.bound(true, 15, 3));
        Due.works("the refused ones do not count", () -> desk.assign(0, 0));
    }

    private static void withdrawnRolesAreTaken() {
        Due.sentence(TAKES);
        AccessDesk desk = new AccessDesk();
        desk.senior(0, 1);
        desk.senior(1, 2);
        for (int user = 0; user < 2; user++) {
            desk.assign(user, 0);
            desk.assign(user, 3);
        }
        desk.assign(0, 2);
        for (int session = 0; session < 6; session++) {
            desk.open(session, session == 4 ? 1 : 0);
            for (int role = 0; role < 4; role++) {
                desk.activate(session, role, true);
            }
        }
        desk.withdraw(0, 0);
        for (int session = 0; session < 6; session++) {
            int asked = session;
            Due.answers("session " + session, session == 4 ? 15 : 12, () -> desk.holds(asked));
        }
        Due.fails("0 is out", Due.STATE, () -> desk.activate(5, 0, false));
        Due.fails("1 is out", Due.STATE, () -> desk.activate(5, 1, false));
        Due.works("2 is in, as it was assigned", () -> desk.activate(5, 2, false));
        Due.works("3 is in", () -> desk.activate(5, 3, false));
    }

    private static void partedRolesAreTaken() {
        Due.sentence(TAKES);
        AccessDesk desk = new AccessDesk();
        desk.senior(0, 1);
        desk.senior(1, 2);
        desk.senior(3, 2);
        desk.assign(0, 0);
        desk.assign(1, 0);
        desk.assign(1, 3);
        desk.open(0, 0);
        desk.open(5, 1);
        for (int role = 0; role < 3; role++) {
            desk.activate(0, role, true);
            desk.activate(5, role, true);
        }
        desk.unsenior(0, 1);
        Due.answers("what stays", 1, () -> desk.holds(0));
        Due.answers("what stays by another way", 5, () -> desk.holds(5));
        desk.unsenior(3, 2);
        Due.answers("what stays then", 1, () -> desk.holds(5));
    }

    private static void takenAtOnceAndForGood() {
        Due.sentence(TAKES);
        AccessDesk desk = new AccessDesk();
        assignFirst(desk, 0, 2);
        desk.bound(true, 3, 2);
        desk.open(0, 0);
        desk.activate(0, 0, true);
        desk.withdraw(0, 0);
        Due.answers("taken", 0, () -> desk.holds(0));
        desk.assign(0, 0);
        Due.answers("not given back", 0, () -> desk.holds(0));
        Due.works("the other one may be activated", () -> desk.activate(0, 1, true));
        Due.load(desk, "p[r=1];");
        Due.answers("seen by decide", 1, () -> desk.decide(0, 0, 0, 0));
        desk.withdraw(0, 1);
        Due.answers("seen by decide at once", 0, () -> desk.decide(0, 0, 0, 0));
    }
}
