/** Promises 1 to 12, one after another: each sentence that refuses a call or names an edge. */
public final class Promises1To12EdgeTest {
    public static void main(String[] args) {
        newObject();
        noPolicy();
        ranksAndLevelsNone();
        seniorOfNoSuchRoles();
        seniorAlready();
        seniorRoundabout();
        seniorWithinBounds();
        unseniorOfNoSuchRoles();
        unseniorThatItIsNot();
        assignOfNoSuch();
        assignAlready();
        assignWithinBounds();
        withdrawOfNoSuch();
        withdrawNotAssigned();
        boundNumbers();
        boundOfNoSuchSet();
        boundOfNoSuchNumber();
        boundsAreSix();
        boundBrokenNow();
        rankOfNoSuchUser();
        rankNone();
        openOfNoSuch();
        openAlready();
        closeOfNoSuch();
        closeAlready();
        activateOfNoSuch();
        activateInAClosedOne();
        activateAlready();
        activateUnauthorized();
        activateWithinBounds();
        holdsOfAClosedOne();
        holdsOfNoSuch();
        authorizedOfNoSuch();
        Due.end();
    }

    private static void newObject() {
        Due.sentence("Nothing told");
        AccessDesk desk = new AccessDesk();
        Due.same("what is seen", "0 0 0 0 0 0 0 0 -1 -1 -1 -1 -1 -1 -1 0 -1", Due.picture(desk));
        Due.refuses("no entry", Due.INDEX, () -> desk.entry(0, 0));
        Due.fails("no senior", Due.STATE, () -> desk.unsenior(0, 1));
        Due.fails("no assigned role", Due.STATE, () -> desk.withdraw(0, 0));
        Due.fails("no open session", Due.STATE, () -> desk.close(0));
        Due.answers("no bound", 0, () -> desk.bound(false, 3, 2));
        Due.answers("no byte", 1, () -> desk.feed('p', 1));
    }

    private static void noPolicy() {
        Due.sentence("no policy (each decision is 0)");
        AccessDesk desk = new AccessDesk();
        for (int session = 0; session < 6; session++) {
            int asked = session;
            desk.open(session, session);
            Due.answers("decide", 0, () -> desk.decide(asked, asked, asked, asked));
            Due.refuses("request", Due.UNSUPPORTED, () -> desk.request(asked, asked, asked, asked));
            Due.answers("its decision", 0, () -> desk.entry(asked, 3));
        }
    }

    private static void ranksAndLevelsNone() {
        Due.sentence("all ranks and levels none, classes 0");
        AccessDesk desk = new AccessDesk();
        Due.load(desk, "F{d[l=0];d[s=0];d[l<1];d[s<1];p[c=0]?(L=0&S=0);}");
        for (int user = 0; user < 8; user++) {
            desk.open(0, user);
            Due.answers("of user " + user, 3, () -> desk.decide(0, 0, 0, 0));
            desk.close(0);
        }
        desk.open(0, 0);
        for (int object = 0; object < 16; object++) {
            int asked = object;
            Due.answers("of object " + object, 3, () -> desk.decide(0, 0, asked, 0));
        }
        desk.rank(0, 0, false);
        Due.answers("a rank is not a level", 2, () -> desk.decide(0, 0, 0, 0));
    }

    private static void seniorOfNoSuchRoles() {
        Due.sentence("IllegalArgumentException: no such roles, or they are one");
        AccessDesk desk = new AccessDesk();
        Due.refusesOutside("senior of", 11, role -> desk.senior(role, 5));
        Due.refusesOutside("senior to", 11, role -> desk.senior(5, role));
        Due.refusesOutside("both", 11, role -> desk.senior(role, role));
        for (int role = 0; role < 12; role++) {
            int asked = role;
            Due.fails("one and the same", Due.ARGUMENT, () -> desk.senior(asked, asked));
        }
    }

    private static void seniorAlready() {
        Due.sentence("IllegalStateException: it is so already (directly)");
        AccessDesk desk = new AccessDesk();
        Due.works("senior", () -> desk.senior(0, 1));
        Due.fails("again", Due.STATE, () -> desk.senior(0, 1));
        desk.senior(1, 2);
        Due.works("so by a way, but not directly", () -> desk.senior(0, 2));
        Due.fails("now directly", Due.STATE, () -> desk.senior(0, 2));
        desk.unsenior(0, 1);
        Due.works("not so any more", () -> desk.senior(0, 1));
    }

    private static void seniorRoundabout() {
        Due.sentence("the other one is senior to it by some way");
        AccessDesk desk = new AccessDesk();
        desk.senior(0, 1);
        Due.fails("directly", Due.STATE, () -> desk.senior(1, 0));
        desk.senior(1, 2);
        Due.fails("by two steps", Due.STATE, () -> desk.senior(2, 0));
        desk.senior(3, 0);
        Due.fails("by three steps", Due.STATE, () -> desk.senior(2, 3));
        desk.unsenior(1, 2);
        Due.works("by none", () -> desk.senior(2, 3));
        Due.fails("the other way round now", Due.STATE, () -> desk.senior(1, 2));
    }

    private static void seniorWithinBounds() {
        Due.sentence("or a bound would be broken");
        AccessDesk desk = new AccessDesk();
        desk.assign(6, 0);
        desk.assign(6, 3);
        desk.open(4, 6);
        desk.activate(4, 0, true);
        desk.bound(false, 0b111, 2);
        desk.bound(true, 0b110001, 3);
        Due.fails("static", Due.STATE, () -> desk.senior(0, 2));
        Due.fails("static, by a role that is not activated", Due.STATE, () -> desk.senior(3, 1));
        Due.works("two of the dynamic one", () -> desk.senior(0, 4));
        Due.fails("three of the dynamic one", Due.STATE, () -> desk.senior(4, 5));
        Due.works("of a role that nobody has", () -> desk.senior(1, 2));
    }

    private static void unseniorOfNoSuchRoles() {
        Due.sentence("IllegalArgumentException: no such roles");
        AccessDesk desk = new AccessDesk();
        Due.refusesOutside("unsenior of", 11, role -> desk.unsenior(role, 5));
        Due.refusesOutside("unsenior to", 11, role -> desk.unsenior(5, role));
    }

    private static void unseniorThatItIsNot() {
        Due.sentence("IllegalStateException: it is not (directly)");
        AccessDesk desk = new AccessDesk();
        Due.fails("never", Due.STATE, () -> desk.unsenior(0, 1));
        Due.fails("to itself", Due.STATE, () -> desk.unsenior(4, 4));
        desk.senior(0, 1);
        desk.senior(1, 2);
        Due.fails("by a way alone", Due.STATE, () -> desk.unsenior(0, 2));
        Due.fails("the other way round", Due.STATE, () -> desk.unsenior(1, 0));
        Due.works("directly", () -> desk.unsenior(0, 1));
        Due.fails("not any more", Due.STATE, () -> desk.unsenior(0, 1));
        Due.works("the other one stayed", () -> desk.unsenior(1, 2));
    }

    private static void assignOfNoSuch() {
        Due.sentence("IllegalArgumentException: no such user or role");
        AccessDesk desk = new AccessDesk();
        Due.refusesOutside("user", 7, user -> desk.assign(user, 0));
        Due.refusesOutside("role", 11, role -> desk.assign(0, role));
        Due.answers("nothing is assigned", 0, () -> desk.authorized(0));
    }

    private static void assignAlready() {
        Due.sentence("IllegalStateException: it is");
        AccessDesk desk = new AccessDesk();
        desk.assign(3, 4);
        Due.fails("assigned", Due.STATE, () -> desk.assign(3, 4));
        desk.senior(4, 5);
        Due.works("authorized for, not assigned", () -> desk.assign(3, 5));
        Due.works("of another user", () -> desk.assign(4, 4));
        desk.withdraw(3, 4);
        Due.works("after it was taken back", () -> desk.assign(3, 4));
    }

    private static void assignWithinBounds() {
        Due.sentence("or a bound would be broken");
        AccessDesk desk = new AccessDesk();
        desk.bound(false, 0b111, 3);
        desk.assign(0, 0);
        Due.works("two of three", () -> desk.assign(0, 1));
        Due.fails("three of three", Due.STATE, () -> desk.assign(0, 2));
        desk.senior(5, 2);
        Due.fails("three by a junior one", Due.STATE, () -> desk.assign(0, 5));
    }

    private static void withdrawOfNoSuch() {
        Due.sentence("IllegalArgumentException: likewise");
        AccessDesk desk = new AccessDesk();
        desk.assign(0, 0);
        Due.refusesOutside("user", 7, user -> desk.withdraw(user, 0));
        Due.refusesOutside("role", 11, role -> desk.withdraw(0, role));
        Due.answers("nothing is taken", 1, () -> desk.authorized(0));
    }

    private static void withdrawNotAssigned() {
        Due.sentence("IllegalStateException: it is not assigned");
        AccessDesk desk = new AccessDesk();
        Due.fails("never", Due.STATE, () -> desk.withdraw(0, 0));
        desk.assign(0, 0);
        desk.senior(0, 1);
        Due.fails("authorized for alone", Due.STATE, () -> desk.withdraw(0, 1));
        Due.fails("another user's", Due.STATE, () -> desk.withdraw(1, 0));
        Due.works("assigned", () -> desk.withdraw(0, 0));
        Due.fails("twice", Due.STATE, () -> desk.withdraw(0, 0));
        Due.answers("authorized for none", 0, () -> desk.authorized(0));
    }

    private static void boundNumbers() {
        Due.sentence("One more bound: its number");
        AccessDesk desk = new AccessDesk();
        for (int number = 0; number < 6; number++) {
            boolean dynamic = number % 3 == 1;
            int n = 2 + number % 5;
            Due.answers("bound", number, () -> desk.bound(dynamic, 4095, n));
            Due.refuses("a refused one takes none", Due.ARGUMENT, () -> desk.bound(dynamic, 0, n));
        }
    }

    private static void boundOfNoSuchSet() {
        Due.sentence("IllegalArgumentException: no such set (of 12 bits, n roles at least)");
        AccessDesk desk = new AccessDesk();
        Due.refusesOutside("set", 4095, roles -> desk.bound(false, roles, 2));
        Due.refusesOutside("dynamic set", 4095, roles -> desk.bound(true, roles, 2));
        for (int n = 2; n <= 6; n++) {
            int asked = n;
            Due.refuses("one role too few", Due.ARGUMENT, () -> desk.bound(false, (1 << asked - 1) - 1, asked));
            Due.refuses("so too from the top", Due.ARGUMENT,
                    () -> desk.bound(true, 4095 & -1 << 13 - asked, asked));
            Due.answers("just enough", asked - 2, () -> desk.bound(true, 4095 & -1 << 12 - asked, asked));
        }
        Due.refuses("empty", Due.ARGUMENT, () -> desk.bound(false, 0, 2));
        Due.refuses("one role", Due.ARGUMENT, () -> desk.bound(false, 1 << 11, 2));
    }

    private static void boundOfNoSuchNumber() {
        Due.sentence("or n");
        AccessDesk desk = new AccessDesk();
        for (int n : new int[] {Integer.MIN_VALUE, -1, 0, 1, 7, 8, Integer.MAX_VALUE}) {
            Due.refuses("n " + n, Due.ARGUMENT, () -> desk.bound(false, 4095, n));
            Due.refuses("of an empty set", Due.ARGUMENT, () -> desk.bound(true, 0, n));
        }
        Due.answers("n 2", 0, () -> desk.bound(false, 4095, 2));
        Due.answers("n 6", 1, () -> desk.bound(false, 4095, 6));
    }

    private static void boundsAreSix() {
        Due.sentence("IllegalStateException: there are 6");
        AccessDesk desk = new AccessDesk();
        for (int number = 0; number < 6; number++) {
            desk.bound(true, 4095, 6);
        }
        for (int k = 0; k < 3; k++) {
            Due.refuses("one more", Due.STATE, () -> desk.bound(true, 4095, 6));
        }
        Due.refuses("one more that is none", Due.ARGUMENT, () -> desk.bound(true, 4095, 7));
        Due.refuses("one more of no set", Due.ARGUMENT, () -> desk.bound(true, 4096, 6));
    }

    private static void boundBrokenNow() {
        Due.sentence("or it is broken now");
        AccessDesk desk = new AccessDesk();
        desk.senior(0, 1);
        desk.assign(7, 0);
        Due.refuses("by a user", Due.STATE, () -> desk.bound(false, 3, 2));
        Due.answers("not by a session", 0, () -> desk.bound(true, 3 << 4, 2));
        desk.open(5, 7);
        desk.activate(5, 0, true);
        Due.refuses("by a session", Due.STATE, () -> desk.bound(true, 3, 2));
        desk.close(5);
        Due.answers("by no session any more", 1, () -> desk.bound(true, 3, 2));
        desk.unsenior(0, 1);
        Due.answers("by no user any more", 2, () -> desk.bound(false, 3, 2));
    }

    private static void rankOfNoSuchUser() {
        Due.sentence("IllegalArgumentException: no such user");
        AccessDesk desk = new AccessDesk();
        Due.refusesOutside("rank", 7, user -> desk.rank(user, 0, false));
        Due.refusesOutside("no rank", 7, user -> desk.rank(user, 0, true));
    }

    private static void rankNone() {
        Due.sentence("A user's rank (none: without one)");
        AccessDesk desk = new AccessDesk();
        desk.open(0, 7);
        Due.load(desk, "p?S=4;");
        Due.answers("none yet", 3, () -> desk.decide(0, 0, 0, 0));
        desk.rank(7, 4, false);
        Due.answers("a rank", 1, () -> desk.decide(0, 0, 0, 0));
        desk.rank(6, 4, true);
        Due.answers("another user's", 1, () -> desk.decide(0, 0, 0, 0));
        desk.rank(7, 4, true);
        Due.answers("none again", 3, () -> desk.decide(0, 0, 0, 0));
        desk.rank(7, 5, false);
        Due.answers("another rank", 0, () -> desk.decide(0, 0, 0, 0));
    }

    private static void openOfNoSuch() {
        Due.sentence("IllegalArgumentException: no such session or user");
        AccessDesk desk = new AccessDesk();
        Due.refusesOutside("session", 5, session -> desk.open(session, 0));
        Due.refusesOutside("user", 7, user -> desk.open(0, user));
        Due.answers("none is open", -1, () -> desk.holds(0));
    }

    private static void openAlready() {
        Due.sentence("IllegalStateException: it is open");
        AccessDesk desk = new AccessDesk();
        desk.assign(1, 1);
        Due.works("open", () -> desk.open(3, 1));
        desk.activate(3, 1, true);
        Due.refusesUnchanged(desk, "by the same user", Due.STATE, () -> desk.open(3, 1));
        Due.refusesUnchanged(desk, "by another user", Due.STATE, () -> desk.open(3, 2));
        Due.fails("by no such user", Due.ARGUMENT, () -> desk.open(3, 8));
        desk.close(3);
        Due.works("closed", () -> desk.open(3, 2));
        Due.answers("it holds nothing", 0, () -> desk.holds(3));
        Due.works("one user may have two", () -> desk.open(4, 2));
    }

    private static void closeOfNoSuch() {
        Due.sentence("IllegalArgumentException: no such session");
        AccessDesk desk = new AccessDesk();
        Due.refusesOutside("close", 5, session -> desk.close(session));
    }

    private static void closeAlready() {
        Due.sentence("IllegalStateException: it is closed");
        AccessDesk desk = new AccessDesk();
        Due.fails("never opened", Due.STATE, () -> desk.close(2));
        desk.open(2, 0);
        Due.works("open", () -> desk.close(2));
        Due.fails("closed", Due.STATE, () -> desk.close(2));
    }

    private static void activateOfNoSuch() {
        Due.sentence("IllegalArgumentException: no such session or role");
        AccessDesk desk = new AccessDesk();
        desk.open(0, 0);
        desk.assign(0, 0);
        for (boolean on : new boolean[] {true, false}) {
            Due.refusesOutside("session", 5, session -> desk.activate(session, 0, on));
            Due.refusesOutside("role", 11, role -> desk.activate(0, role, on));
            Due.fails("of a closed session", Due.ARGUMENT, () -> desk.activate(1, 12, on));
        }
        Due.answers("nothing is activated", 0, () -> desk.holds(0));
    }

    private static void activateInAClosedOne() {
        Due.sentence("IllegalStateException: it is closed");
        AccessDesk desk = new AccessDesk();
        desk.assign(0, 0);
        Due.fails("never opened", Due.STATE, () -> desk.activate(0, 0, true));
        Due.fails("never opened, out", Due.STATE, () -> desk.activate(0, 0, false));
        desk.open(0, 0);
        desk.activate(0, 0, true);
        desk.close(0);
        Due.fails("closed", Due.STATE, () -> desk.activate(0, 0, true));
        Due.fails("closed, out", Due.STATE, () -> desk.activate(0, 0, false));
    }

    private static void activateAlready() {
        Due.sentence("it is so already");
        AccessDesk desk = new AccessDesk();
        desk.assign(0, 0);
        desk.senior(0, 1);
        desk.open(0, 0);
        Due.fails("out", Due.STATE, () -> desk.activate(0, 0, false));
        Due.works("in", () -> desk.activate(0, 0, true));
        Due.fails("in again", Due.STATE, () -> desk.activate(0, 0, true));
        Due.fails("held, not activated", Due.STATE, () -> desk.activate(0, 1, false));
        Due.works("held, and activated too", () -> desk.activate(0, 1, true));
        Due.works("out", () -> desk.activate(0, 0, false));
        Due.answers("the other one stays", 2, () -> desk.holds(0));
        Due.fails("out again", Due.STATE, () -> desk.activate(0, 0, false));
    }

    private static void activateUnauthorized() {
        Due.sentence("the user is not authorized");
        AccessDesk desk = new AccessDesk();
        desk.assign(0, 1);
        desk.senior(0, 1);
        desk.senior(1, 2);
        desk.open(0, 0);
        Due.fails("a senior one", Due.STATE, () -> desk.activate(0, 0, true));
        Due.works("the one assigned", () -> desk.activate(0, 1, true));
        Due.works("a junior one", () -> desk.activate(0, 2, true));
        Due.fails("another one", Due.STATE, () -> desk.activate(0, 3, true));
        desk.open(1, 1);
        Due.fails("another user", Due.STATE, () -> desk.activate(1, 1, true));
    }

    private static void activateWithinBounds() {
        Due.sentence("or a bound would be broken");
        AccessDesk desk = new AccessDesk();
        for (int role = 0; role < 3; role++) {
            desk.assign(0, role);
        }
        desk.bound(true, 0b111, 3);
        desk.open(0, 0);
        desk.activate(0, 0, true);
        Due.works("two of three", () -> desk.activate(0, 1, true));
        Due.fails("three of three", Due.STATE, () -> desk.activate(0, 2, true));
        Due.works("one out", () -> desk.activate(0, 1, false));
        Due.works("then another", () -> desk.activate(0, 2, true));
    }

    private static void holdsOfAClosedOne() {
        Due.sentence("The roles that a session holds, as a set; -1 of a closed one");
        AccessDesk desk = new AccessDesk();
        desk.assign(0, 11);
        Due.answers("never opened", -1, () -> desk.holds(5));
        desk.open(5, 0);
        Due.answers("open and empty", 0, () -> desk.holds(5));
        desk.activate(5, 11, true);
        Due.answers("with a role", 1 << 11, () -> desk.holds(5));
        desk.close(5);
        Due.answers("closed", -1, () -> desk.holds(5));
    }

    private static void holdsOfNoSuch() {
        Due.sentence("IllegalArgumentException: there is none such");
        AccessDesk desk = new AccessDesk();
        Due.refusesOutside("holds", 5, session -> desk.holds(session));
    }

    private static void authorizedOfNoSuch() {
        Due.sentence("The roles that a user is authorized for. IllegalArgumentException: there is none such");
        AccessDesk desk = new AccessDesk();
        Due.refusesOutside("authorized", 7, user -> desk.authorized(user));
        for (int user = 0; user < 8; user++) {
            int asked = user;
            desk.assign(user, user + 4);
            Due.answers("of user " + user, 1 << user + 4, () -> desk.authorized(asked));
        }
    }
}
