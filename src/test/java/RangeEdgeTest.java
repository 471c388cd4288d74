/** The ranges that the document's terms name: each call that takes such a number, at and beyond its ends. */
public final class RangeEdgeTest {
    public static void main(String[] args) {
        users();
        roles();
        sessions();
        sessionsAreClosedOrOfAUser();
        objects();
        classes();
        levels();
        values();
        actions();
        hours();
        ranks();
        heldRoles();
        missing();
        calls();
        Due.end();
    }

    private static AccessDesk opened() {
        AccessDesk desk = new AccessDesk();
        desk.open(0, 0);
        return desk;
    }

    private static void users() {
        Due.sentence("USERS 0 .. 7");
        AccessDesk desk = opened();
        Due.refusesOutside("assign of user", 7, user -> desk.assign(user, 0));
        Due.refusesOutside("withdraw of user", 7, user -> desk.withdraw(user, 0));
        Due.refusesOutside("rank of user", 7, user -> desk.rank(user, 1, false));
        Due.refusesOutside("rank none of user", 7, user -> desk.rank(user, 1, true));
        Due.refusesOutside("open of user", 7, user -> desk.open(1, user));
        Due.refusesOutside("authorized of user", 7, user -> desk.authorized(user));
        Due.load(desk, "p[u=7,s=7];");
        for (int user : new int[] {0, 7}) {
            Due.works("assign", () -> desk.assign(user, user + 1));
            Due.works("rank", () -> desk.rank(user, user, false));
            Due.works("open", () -> desk.open(1, user));
            Due.answers("authorized", 1 << user + 1, () -> desk.authorized(user));
            Due.answers("it is that user's", user == 7 ? 1 : 0, () -> desk.decide(1, 0, 0, 0));
            Due.works("close", () -> desk.close(1));
            Due.works("withdraw", () -> desk.withdraw(user, user + 1));
        }
    }

    private static void roles() {
        Due.sentence("ROLES 0 .. 11");
        AccessDesk desk = opened();
        Due.refusesOutside("senior of role", 11, role -> desk.senior(role, 0));
        Due.refusesOutside("senior to role", 11, role -> desk.senior(0, role));
        Due.refusesOutside("unsenior of role", 11, role -> desk.unsenior(role, 0));
        Due.refusesOutside("unsenior to role", 11, role -> desk.unsenior(0, role));
        Due.refusesOutside("assign of role", 11, role -> desk.assign(0, role));
        Due.refusesOutside("withdraw of role", 11, role -> desk.withdraw(0, role));
        Due.refusesOutside("activate of role", 11, role -> desk.activate(0, role, true));
        Due.refusesOutside("taking out of role", 11, role -> desk.activate(0, role, false));
        for (int role : new int[] {0, 11}) {
            Due.works("senior", () -> desk.senior(role, 11 - role));
            Due.works("assign", () -> desk.assign(0, role));
            Due.works("activate", () -> desk.activate(0, role, true));
            Due.answers("holds", 1 | 1 << 11, () -> desk.holds(0));
            Due.works("take out", () -> desk.activate(0, role, false));
            Due.works("withdraw", () -> desk.withdraw(0, role));
            Due.works("unsenior", () -> desk.unsenior(role, 11 - role));
        }
    }

    private static void sessions() {
        Due.sentence("SESSIONS 0 .. 5");
        AccessDesk desk = new AccessDesk();
        desk.assign(0, 0);
        Due.refusesOutside("open of session", 5, session -> desk.open(session, 0));
        Due.refusesOutside("close of session", 5, session -> desk.close(session));
        Due.refusesOutside("activate in session", 5, session -> desk.activate(session, 0, true));
        Due.refusesOutside("taking out of session", 5, session -> desk.activate(session, 0, false));
        Due.refusesOutside("holds of session", 5, session -> desk.holds(session));
        Due.refusesOutside("decide of session", 5, session -> desk.decide(session, 0, 0, 0));
        Due.refusesOutside("request of session", 5, session -> desk.request(session, 0, 0, 0));
        Due.load(desk, "p;");
        for (int session : new int[] {0, 5}) {
            Due.works("open", () -> desk.open(session, 0));
            Due.works("activate", () -> desk.activate(session, 0, true));
            Due.answers("holds", 1, () -> desk.holds(session));
            Due.answers("decide", 1, () -> desk.decide(session, 0, 0, 0));
            Due.answers("request", 0, () -> desk.request(session, 0, 0, 0));
            Due.works("take out", () -> desk.activate(session, 0, false));
            Due.works("close", () -> desk.close(session));
        }
    }

    private static void sessionsAreClosedOrOfAUser() {
        Due.sentence("each closed, or of a user");
        AccessDesk desk = new AccessDesk();
        Due.load(desk, "F{p[u=7];d;}");
        for (int session = 0; session < 6; session++) {
            int asked = session;
            Due.answers("closed at first", -1, () -> desk.holds(asked));
            desk.open(session, session % 2 == 0 ? 7 : session);
        }
        for (int session = 0; session < 6; session++) {
            int asked = session;
            Due.answers("open", 0, () -> desk.holds(asked));
            Due.answers("of its user", session % 2 == 0 ? 1 : 2, () -> desk.decide(asked, 0, 0, 0));
        }
        desk.close(2);
        Due.answers("closed", -1, () -> desk.holds(2));
        Due.answers("the one before", 0, () -> desk.holds(1));
        Due.answers("the one behind", 0, () -> desk.holds(3));
    }

    private static void objects() {
        Due.sentence("OBJECTS 0 .. 15");
        AccessDesk desk = opened();
        Due.load(desk, "p[c=3];");
        Due.refusesOutside("object", 15, object -> desk.object(object, 3, 0, false));
        Due.refusesOutside("object without a level", 15, object -> desk.object(object, 3, 0, true));
        Due.refusesOutside("decide on object", 15, object -> desk.decide(0, 0, object, 0));
        for (int object : new int[] {0, 15}) {
            Due.answers("before", 0, () -> desk.decide(0, 0, object, 0));
            Due.works("object", () -> desk.object(object, 3, 0, false));
            Due.answers("decide", 1, () -> desk.decide(0, 0, object, 0));
            Due.answers("request", 0, () -> desk.request(0, object, 0, 0));
        }
    }

    private static void classes() {
        Due.sentence("have a CLASS 0 .. 9");
        AccessDesk desk = opened();
        Due.refusesOutside("class", 9, klass -> desk.object(0, klass, 0, false));
        Due.refusesOutside("class without a level", 9, klass -> desk.object(0, klass, 0, true));
        for (int klass : new int[] {9, 0}) {
            Due.load(desk, "p[c=" + klass + "];");
            Due.answers("before", 0, () -> desk.decide(0, 0, 0, 0));
            Due.works("object", () -> desk.object(0, klass, 0, false));
            Due.answers("after", 1, () -> desk.decide(0, 0, 0, 0));
        }
        desk.object(0, 4, 5, false);
        Due.fails("a refused class", Due.ARGUMENT, () -> desk.object(0, 10, 6, false));
        Due.load(desk, "p[c=4,l=5];");
        Due.answers("changes neither class nor level", 1, () -> desk.decide(0, 0, 0, 0));
    }

    private static void levels() {
        Due.sentence("a LEVEL (an int) or none");
        AccessDesk desk = opened();
        Due.load(desk, "F{p[l<0]+0;p[l>999]+1;p[l=0]+2;p[l=999]+3;p[L>0];}");
        int[] levels = {Integer.MIN_VALUE, -1, 0, 1, 998, 999, 1000, Integer.MAX_VALUE};
        int[] due = {11, 11, 41, 1, 1, 81, 21, 21};
        for (int k = 0; k < levels.length; k++) {
            int level = levels[k];
            Due.works("object", () -> desk.object(0, 0, level, false));
            Due.answers("level " + level, due[k], () -> desk.decide(0, 0, 0, 0));
            desk.object(0, 0, level, true);
            Due.answers("none, told with " + level, 3, () -> desk.decide(0, 0, 0, 0));
        }
    }

    private static void values() {
        Due.sentence("and a VALUE (0 at first)");
        AccessDesk desk = opened();
        Due.load(desk, "p;");
        for (int object = 0; object < 16; object++) {
            int asked = object;
            Due.answers("at first", 0, () -> desk.request(0, asked, 0, 9));
            Due.answers("put", asked + 100, () -> desk.request(0, 16 + asked, 0, asked + 100));
        }
        for (int object = 0; object < 16; object++) {
            int asked = object;
            Due.answers("each its own", asked + 100, () -> desk.request(0, asked, 0, 9));
        }
    }

    private static void actions() {
        Due.sentence("for an ACTION 0 .. 9 on an object");
        AccessDesk desk = opened();
        Due.refusesOutside("decide of action", 9, action -> desk.decide(0, action, 0, 0));
        Due.refusesOutside("request of target", 159, target -> desk.request(0, target, 0, 0));
        Due.answers("the book has none of them", 0, () -> desk.entry(-1, 0));
        for (int action : new int[] {0, 9}) {
            Due.load(desk, "p[a=" + action + "];");
            Due.answers("decide", 1, () -> desk.decide(0, action, 0, 0));
            Due.answers("decide of the other", 0, () -> desk.decide(0, 9 - action, 0, 0));
            Due.answers("request", 0, () -> desk.request(0, 16 * action + 15, 0, 0));
        }
        Due.answers("its action", 9, () -> desk.entry(1, 1));
        Due.answers("its object", 15, () -> desk.entry(1, 2));
    }

    private static void hours() {
        Due.sentence("at an HOUR (0 .. 23)");
        AccessDesk desk = opened();
        Due.refusesOutside("decide at hour", 23, hour -> desk.decide(0, 0, 0, hour));
        Due.refusesOutside("request at hour", 23, hour -> desk.request(0, 0, hour, 0));
        Due.answers("the book has none of them", 0, () -> desk.entry(-1, 0));
        for (int hour : new int[] {0, 23}) {
            Due.load(desk, "p[h=" + hour + "];");
            Due.answers("decide", 1, () -> desk.decide(0, 0, 0, hour));
            Due.answers("decide at the other", 0, () -> desk.decide(0, 0, 0, 23 - hour));
            Due.answers("request", 0, () -> desk.request(0, 0, hour, 0));
        }
    }

    private static void ranks() {
        Due.sentence("s the user's RANK (an int, or none)");
        AccessDesk desk = opened();
        Due.load(desk, "F{p[s<0]+0;p[s>999]+1;p[s=0]+2;p[s=999]+3;p[S>0];}");
        int[] ranks = {Integer.MIN_VALUE, -1, 0, 1, 998, 999, 1000, Integer.MAX_VALUE};
        int[] due = {11, 11, 41, 1, 1, 81, 21, 21};
        for (int k = 0; k < ranks.length; k++) {
            int rank = ranks[k];
            Due.works("rank", () -> desk.rank(0, rank, false));
            Due.answers("rank " + rank, due[k], () -> desk.decide(0, 0, 0, 0));
            desk.rank(0, rank, true);
            Due.answers("none, told with " + rank, 3, () -> desk.decide(0, 0, 0, 0));
        }
    }

    private static void heldRoles() {
        Due.sentence("r its roles (those that the session holds)");
        AccessDesk desk = opened();
        desk.assign(0, 11);
        desk.assign(0, 5);
        desk.senior(11, 0);
        desk.activate(0, 11, true);
        int[] roles = {0, 11, 5, 1, 10, 12, 31, 32, 43, 64, 256, 999};
        for (int role : roles) {
            Due.load(desk, "F{p[r=" + role + "]?r=" + role + ";d;}");
            boolean isHeld = role == 0 || role == 11;
            Due.answers("role " + role, isHeld ? 1 : 2, () -> desk.decide(0, 0, 0, 0));
        }
    }

    private static void missing() {
        Due.sentence("l and s may be missing");
        AccessDesk desk = opened();
        Due.load(desk, "F{p[l>0];p[s>0];d;}");
        Due.answers("both", 2, () -> desk.decide(0, 0, 0, 0));
        desk.object(0, 0, 1, false);
        Due.answers("a level", 1, () -> desk.decide(0, 0, 0, 0));
        Due.answers("not of another object", 2, () -> desk.decide(0, 0, 1, 0));
        desk.rank(1, 1, false);
        Due.answers("another user's rank", 2, () -> desk.decide(0, 0, 1, 0));
        desk.rank(0, 1, false);
        Due.answers("a rank", 1, () -> desk.decide(0, 0, 1, 0));
        desk.object(0, 0, 1, true);
        desk.rank(0, 1, true);
        Due.answers("both again", 2, () -> desk.decide(0, 0, 0, 0));
    }

    private static void calls() {
        Due.sentence("An object is used for at most 512 calls after it has been made");
        AccessDesk desk = new AccessDesk();
        desk.open(0, 0);
        desk.feed('p' << 8 | ';', 2);
        desk.policy();
        for (int call = 4; call <= 509; call++) {
            int sum = call - 3;
            Due.answers("call " + call, sum, () -> desk.request(0, 32, 0, 1));
        }
        Due.answers("call 510", 506, () -> desk.entry(-1, 0));
        Due.answers("call 511", 2, () -> desk.entry(466, 1));
        Due.answers("call 512", -1, desk::audit);
    }
}
