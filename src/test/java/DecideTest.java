/** Promises 1, 7, 13 and 17: a new object, rank, object, decide. */
public final class DecideTest {
    private static final int NONE = 0;
    private static final int PERMIT = 1;
    private static final int DENY = 2;
    private static final int UNSURE_PERMIT = 3;
    private static final int UNSURE_DENY = 4;
    private static final int UNSURE_BOTH = 5;
    /** A node for each value, as a fresh desk decides it: levels and ranks are missing there. */
    private static final String[] OF_VALUE = {
        "p[a=9];", "p;", "d;", "p?L=1;", "d?L=1;", "D{p?L=1;d?L=1;}"
    };

    public static void main(String[] args) {
        newObject();
        rankIsSeen();
        objectIsSeen();
        decideIsRefused();
        matches();
        targets();
        conditions();
        rules();
        combinations();
        firstApplicable();
        onlyOneApplicable();
        unsureTargets();
        duties();
        largest();
        Due.end();
    }

    private static AccessDesk fresh() {
        AccessDesk desk = new AccessDesk();
        desk.open(0, 0);
        return desk;
    }

    private static void decides(int due, String text) {
        AccessDesk desk = fresh();
        Due.load(desk, text);
        Due.answers("place of " + text, -1, desk::place);
        Due.answers("decision by " + text, due, () -> desk.decide(0, 0, 0, 12));
    }

    private static void newObject() {
        AccessDesk desk = new AccessDesk();
        Due.answers("place", -1, desk::place);
        Due.answers("audit", -1, desk::audit);
        Due.answers("requests", 0, () -> desk.entry(-1, 0));
        for (int session = 0; session < 6; session++) {
            int asked = session;
            Due.answers("closed", -1, () -> desk.holds(asked));
            desk.open(session, session);
            Due.answers("no policy", NONE, () -> desk.decide(asked, 9, 15, 23));
        }
        for (int object = 0; object < 16; object++) {
            int asked = object;
            Due.load(desk, "F{p[c=0,l=0];p[c>0];p?(l<999|l>0);d[L=0];}");
            Due.answers("class 0, no level", UNSURE_DENY, () -> desk.decide(0, 0, asked, 0));
        }
        desk.close(0);
        for (int user = 0; user < 8; user++) {
            desk.open(0, user);
            Due.answers("no roles", 0, () -> desk.holds(0));
            Due.load(desk, "F{d?(s=0|(s<1|s>0));p?S=0;}");
            Due.answers("no rank", UNSURE_PERMIT, () -> desk.decide(0, 0, 0, 0));
            desk.close(0);
        }
    }

    private static void rankIsSeen() {
        AccessDesk desk = fresh();
        Due.fails("rank(-1)", Due.ARGUMENT, () -> desk.rank(-1, 1, false));
        Due.fails("rank(8)", Due.ARGUMENT, () -> desk.rank(8, 1, true));
        Due.load(desk, "F{p?S=5;d?S<5;}");
        Due.answers("none", UNSURE_PERMIT, () -> desk.decide(0, 0, 0, 0));
        Due.works("rank 5", () -> desk.rank(0, 5, false));
        Due.answers("equal", PERMIT, () -> desk.decide(0, 0, 0, 0));
        desk.rank(0, Integer.MIN_VALUE, false);
        Due.answers("below", DENY, () -> desk.decide(0, 0, 0, 0));
        desk.rank(0, Integer.MAX_VALUE, false);
        Due.answers("above", NONE, () -> desk.decide(0, 0, 0, 0));
        desk.rank(0, 5, true);
        Due.answers("none again", UNSURE_PERMIT, () -> desk.decide(0, 0, 0, 0));
        desk.rank(7, 5, false);
        desk.open(1, 7);
        Due.answers("another user", PERMIT, () -> desk.decide(1, 0, 0, 0));
    }

    private static void objectIsSeen() {
        AccessDesk desk = fresh();
        Due.fails("object(-1)", Due.ARGUMENT, () -> desk.object(-1, 0, 0, false));
        Due.fails("object(16)", Due.ARGUMENT, () -> desk.object(16, 0, 0, false));
        Due.fails("class -1", Due.ARGUMENT, () -> desk.object(0, -1, 0, false));
        Due.fails("class 10", Due.ARGUMENT, () -> desk.object(0, 10, 0, true));
        Due.load(desk, "F{p[c=9,L>4];d[c=9,l=4];d[c=9]+1;}");
        Due.answers("class 0", NONE, () -> desk.decide(0, 0, 15, 0));
        Due.works("class 9, level 5", () -> desk.object(15, 9, 5, false));
        Due.answers("above", PERMIT, () -> desk.decide(0, 0, 15, 0));
        desk.object(15, 9, 4, false);
        Due.answers("equal", DENY, () -> desk.decide(0, 0, 15, 0));
        desk.object(15, 9, Integer.MIN_VALUE, false);
        Due.answers("far below", 22, () -> desk.decide(0, 0, 15, 0));
        desk.object(15, 9, 5, true);
        Due.answers("none", UNSURE_PERMIT, () -> desk.decide(0, 0, 15, 0));
        Due.answers("another object", NONE, () -> desk.decide(0, 0, 14, 0));
    }

    private static void decideIsRefused() {
        AccessDesk desk = fresh();
        Due.load(desk, "p;");
        Due.refuses("session -1", Due.ARGUMENT, () -> desk.decide(-1, 0, 0, 0));
        Due.refuses("session 6", Due.ARGUMENT, () -> desk.decide(6, 0, 0, 0));
        Due.refuses("action -1", Due.ARGUMENT, () -> desk.decide(0, -1, 0, 0));
        Due.refuses("action 10", Due.ARGUMENT, () -> desk.decide(0, 10, 0, 0));
        Due.refuses("object -1", Due.ARGUMENT, () -> desk.decide(0, 0, -1, 0));
        Due.refuses("object 16", Due.ARGUMENT, () -> desk.decide(0, 0, 16, 0));
        Due.refuses("hour -1", Due.ARGUMENT, () -> desk.decide(0, 0, 0, -1));
        Due.refuses("hour 24", Due.ARGUMENT, () -> desk.decide(0, 0, 0, 24));
        Due.refuses("closed", Due.STATE, () -> desk.decide(5, 0, 0, 0));
        Due.refuses("closed, and no such hour", Due.ARGUMENT, () -> desk.decide(5, 0, 0, 24));
        Due.answers("the last of each", PERMIT, () -> desk.decide(0, 9, 15, 23));
        Due.answers("nothing changed", 0, () -> desk.entry(-1, 0));
    }

    private static void matches() {
        AccessDesk desk = new AccessDesk();
        desk.open(3, 4);
        desk.assign(4, 11);
        desk.assign(4, 7);
        desk.senior(11, 0);
        desk.activate(3, 11, true);
        desk.rank(4, 6, false);
        desk.object(2, 8, -3, false);
        String[] isTrue = {"a=5", "a>4", "a<6", "c=8", "c>7", "c<9", "h=21", "h>20", "h<22", "u=4",
            "s=6", "s>5", "s<7", "S=6", "S>5", "S<7", "l<0", "L<0", "r=11", "r=0"};
        String[] isFalse = {"a=4", "a>5", "a<5", "c=0", "c>8", "c<8", "h=2", "h>21", "h<21", "u=0",
            "u=3", "s=0", "s>6", "s<6", "S=7", "S>6", "S<6", "l=3", "l>0", "L=0", "r=7", "r=1",
            "r=12", "r=32", "r=43", "r=999"};
        for (String match : isTrue) {
            Due.load(desk, "p[" + match + "]?" + match + ";");
            Due.answers(match, PERMIT, () -> desk.decide(3, 5, 2, 21));
        }
        for (String match : isFalse) {
            Due.load(desk, "F{p[" + match + "];p?" + match + ";d;}");
            Due.answers(match, DENY, () -> desk.decide(3, 5, 2, 21));
        }
    }

    private static void targets() {
        decides(PERMIT, "p[a=0,c=0,h=12];");
        decides(NONE, "p[a=0,c=1,h=12];");
        decides(NONE, "p[L=0,c=1];");
        decides(UNSURE_PERMIT, "p[L=0,c=0];");
        decides(PERMIT, "p[c=1|c=2|c=0];");
        decides(PERMIT, "p[L=0|c=0];");
        decides(UNSURE_PERMIT, "p[L=0|c=1];");
        decides(NONE, "p[c=0&c=1];");
        decides(NONE, "p[L=0&c=1];");
        decides(UNSURE_PERMIT, "p[c=0&L=0];");
        decides(PERMIT, "p[c=1,a=0|c=0&a=0];");
        decides(NONE, "p[c=0|c=0&a=1];");
        decides(NONE, "p[a=1,c=0|a=0,c=1];");
        decides(PERMIT, "p[a=0&c=1|a=0];");
        decides(NONE, "p[l=0|s=0|l<9|l>0];");
    }

    private static void conditions() {
        decides(NONE, "p?!c=0;");
        decides(PERMIT, "p?!c=1;");
        decides(PERMIT, "p?!l=1;");
        decides(UNSURE_PERMIT, "p?!S=1;");
        decides(UNSURE_PERMIT, "p?!!S=1;");
        decides(PERMIT, "p?!!!c=1;");
        decides(NONE, "p?(L=1&c=1);");
        decides(NONE, "p?(c=1&L=1);");
        decides(UNSURE_PERMIT, "p?(c=0&L=1);");
        decides(PERMIT, "p?(c=0|L=1);");
        decides(PERMIT, "p?(L=1|c=0);");
        decides(UNSURE_PERMIT, "p?(c=1|L=1);");
        decides(NONE, "p?(c=1|c=2);");
        decides(PERMIT, "p?!(c=1|(c=0&!c=0));");
        decides(PERMIT, "p?(c=0&(c=0&(c=0&(c=0&(c=0&(c=0&c=0))))));");
        decides(NONE, "p?(c=0&(c=0&(c=0&(c=0&(c=0&(c=0&c=1))))));");
        decides(PERMIT, "p?((((((c=1|c=0)&c=0)|c=1)&c=0)&c=0)|L=1);");
    }

    private static void rules() {
        String[] of = {"c=1", "L=1", "c=0"};
        int[][] due = {{0, 0, 0}, {3, 3, 3}, {0, 3, 1}};
        for (int target = 0; target < 3; target++) {
            for (int condition = 0; condition < 3; condition++) {
                String rest = "[" + of[target] + "]?" + of[condition] + ";";
                int permitting = due[target][condition];
                decides(permitting, "p" + rest);
                decides(permitting == 0 ? 0 : permitting + 1, "d" + rest);
            }
        }
    }

    /** All pairs and triples of values, against the document's lists taken line by line. */
    private static void combinations() {
        for (int first = 0; first < 6; first++) {
            for (int second = 0; second < 6; second++) {
                for (int third = 0; third < 6; third++) {
                    String nodes = "{" + OF_VALUE[first] + OF_VALUE[second] + OF_VALUE[third] + "}";
                    boolean[] seen = new boolean[6];
                    seen[first] = true;
                    seen[second] = true;
                    seen[third] = true;
                    decides(denyOverrides(seen), "D" + nodes);
                    decides(permitOverrides(seen), "P" + nodes);
                    decides(seen[PERMIT] ? PERMIT : DENY, "X" + nodes);
                    decides(seen[DENY] ? DENY : PERMIT, "Y" + nodes);
                    decides(first != 0 ? first : second != 0 ? second : third, "F" + nodes);
                }
            }
        }
    }

    private static int denyOverrides(boolean[] seen) {
        return seen[2] ? 2
                : seen[5] || seen[4] && (seen[3] || seen[1]) ? 5
                : seen[4] ? 4 : seen[1] ? 1 : seen[3] ? 3 : 0;
    }

    private static int permitOverrides(boolean[] seen) {
        return seen[1] ? 1
                : seen[5] || seen[3] && (seen[4] || seen[2]) ? 5
                : seen[3] ? 3 : seen[2] ? 2 : seen[4] ? 4 : 0;
    }

    private static void firstApplicable() {
        decides(NONE, "F{p[a=1];d?a=1;}");
        decides(11, "F{d[a=1]+1;p+0;d+2;p+3;}");
        decides(UNSURE_BOTH, "F{p[a=1];D{p?L=1;d?L=1;}p;}");
        decides(122, "F{d[a=1]+1;d+2;d+4;}+1-3");
    }

    private static void onlyOneApplicable() {
        decides(NONE, "O{D[c=1]{p;}P[c=2]{p;}}");
        decides(PERMIT, "O{D[c=1]{d;}P{p;}}");
        decides(NONE, "O{D{p[a=1];}}");
        decides(UNSURE_DENY, "O{D{d?L=1;}}");
        decides(UNSURE_BOTH, "O{D[c=1]{d;}P{p;}F{p[a=1];}}");
        decides(UNSURE_BOTH, "O{D[L=1]{d;}}");
        decides(UNSURE_BOTH, "O{D[c=0]{p;}P[c=1]{p;}F[L=1]{p;}}");
        decides(142, "O{D[c=1]{d+0;}X[c=0]{p[a=1];d+1;}+4-2}+5-3");
        decides(UNSURE_PERMIT, "O[L=1]{D{p;}}");
    }

    private static void unsureTargets() {
        int[] due = {0, 3, 4, 3, 4, 5};
        for (int value = 0; value < 6; value++) {
            decides(due[value], "F[S=1]{" + OF_VALUE[value] + "}");
            decides(0, "F[a=1]{" + OF_VALUE[value] + "}");
        }
        decides(UNSURE_DENY, "X[S=1]{p[a=1];}+1-2");
        decides(UNSURE_PERMIT, "Y[S=1]{d[a=1];}+1-2");
    }

    private static void duties() {
        decides(2551, "p+76543210;");
        decides(1282, "d+7;");
        decides(NONE, "p[a=1]+7;");
        decides(UNSURE_PERMIT, "p[L=1]+7;");
        decides(10 * 0x1b + 1, "D{p+0;p+1;d[a=1]+2;F{p+3;p+5;}+4-6}");
        decides(10 * 0x43 + 2, "D{p+2;d+0;d+1;F{p+3;}+4}+5-6");
        decides(10 * 0x06 + 2, "X{d+1;d?L=1+3;p[a=1]+4;}+5-2");
        decides(10 * 0x04 + 2, "X{p[a=1]+4;}+5-2");
        decides(10 * 0x21 + 1, "Y{p+0;d[a=1]+4;}+5-2");
        decides(10 * 0x01 + 1, "P{p+0;d+1;}-7");
        decides(NONE, "D{p[a=1]+0;}+1-2");
        decides(UNSURE_PERMIT, "D{p?L=1+0;}+1-2");
        decides(10 * 0x01 + 1, "P{p+0;F[L=1]{p+1;}+2}");
        decides(10 * 0x07 + 1, "D{P{p+0;}+0P{p+1;}+1}+2");
        decides(10 * 0x1f + 1, "D{P{F{X{Y{p+0;}+1}+2}+3}+4}");
    }

    private static void largest() {
        decides(10 * 0x81 + 1, "D{p+0;" + "p;".repeat(37) + "p+7;}");
        decides(DENY, "D{" + "p;".repeat(38) + "d;}");
        decides(PERMIT, "p[" + "a=0,".repeat(73) + "h=12];");
        decides(NONE, "p[" + "a=0,".repeat(73) + "h=13];");
        decides(NONE, "p?" + "!".repeat(293) + "h=12;");
        decides(PERMIT, "p?" + "!".repeat(292) + "h=12;");
    }
}
