/** The edges of how it is decided. On a new desk levels and ranks are missing, and all classes are 0. */
public final class DecisionEdgeTest {
    private static final String COMBINING = "DPFXYO";
    /** A match that is false, indeterminate or true on a new desk. */
    private static final String[] MATCHES = {"c=1", "L=1", "c=0"};
    private static final int FALSE = 0;
    private static final int UNSURE = 1;
    private static final int TRUE = 2;
    /** What a permitting rule answers whose target or condition is false, indeterminate or true. */
    private static final int[] PERMITTING = {0, 3, 1};
    /** A policy without a target for each value, as a new desk decides it. */
    private static final String[] NODES = {
        "F{p[c=1];}", "F{p;}", "F{d;}", "F{p?L=1;}", "F{d?L=1;}", "D{p?L=1;d?L=1;}"
    };

    public static void main(String[] args) {
        matchesByTheirAttribute();
        matchesOfWhatIsMissing();
        alls();
        anys();
        targets();
        noTarget();
        denials();
        bothAndEither();
        rules();
        policiesWithAFalseTarget();
        denyOverrides();
        permitOverrides();
        firstApplicable();
        denyUnlessPermit();
        permitUnlessDeny();
        onlyOneOfUnsureTargets();
        onlyOneOfSeveral();
        onlyOneOfOne();
        onlyOneOfNone();
        unsureTargets();
        dutiesOfPermitAndDenyAlone();
        ownDuties();
        dutiesOfNodes();
        dutiesOfTheOneThatCounted();
        dutiesAsASet();
        fortyNodes();
        fivePoliciesWithin();
        sixBrackets();
        longestTargets();
        oneTextAfterAnother();
        Due.end();
    }

    private static void decides(int due, String text) {
        AccessDesk desk = new AccessDesk();
        desk.open(0, 0);
        Due.load(desk, text);
        Due.answers("place of " + text, -1, desk::place);
        Due.answers("decision by " + text, due, () -> desk.decide(0, 0, 0, 12));
    }

    private static void matchesByTheirAttribute() {
        Due.sentence("a MATCH is true or false by its attribute (r: whether the role is held)");
        String[] isTrue = {"a=0", "a<1", "c=0", "c<1", "h=12", "h>11", "h<13", "h<999", "u=0"};
        String[] isFalse = {"a<0", "a>0", "a=1", "c>0", "c<0", "h<12", "h>12", "h=11", "h=999", "h>999",
            "u=1", "u=8", "u=999", "r=0", "r=11", "r=12", "r=32", "r=999"};
        for (String match : isTrue) {
            decides(1, "p[" + match + "];");
            decides(1, "p?" + match + ";");
        }
        for (String match : isFalse) {
            decides(0, "p[" + match + "];");
            decides(0, "p?" + match + ";");
        }
    }

    private static void matchesOfWhatIsMissing() {
        Due.sentence("of one that is missing it is false, of L or S INDETERMINATE");
        for (String sign : new String[] {"=", "<", ">"}) {
            for (int number : new int[] {0, 1, 999}) {
                decides(0, "p[l" + sign + number + "];");
                decides(0, "p[s" + sign + number + "];");
                decides(1, "p?!l" + sign + number + ";");
                decides(1, "p?!s" + sign + number + ";");
                decides(3, "p[L" + sign + number + "];");
                decides(4, "d[S" + sign + number + "];");
                decides(3, "p?L" + sign + number + ";");
                decides(4, "d?S" + sign + number + ";");
            }
        }
    }

    private static int least(int... parts) {
        int least = TRUE;
        for (int part : parts) {
            least = part == FALSE || least == FALSE ? FALSE : part == UNSURE ? UNSURE : least;
        }
        return least;
    }

    private static int most(int... parts) {
        int most = FALSE;
        for (int part : parts) {
            most = part == TRUE || most == TRUE ? TRUE : part == UNSURE ? UNSURE : most;
        }
        return most;
    }

    private static void joined(String between, boolean isAll) {
        for (int first = 0; first < 3; first++) {
            decides(PERMITTING[first], "p[" + MATCHES[first] + "];");
            for (int second = 0; second < 3; second++) {
                String two = MATCHES[first] + between + MATCHES[second];
                int due = isAll ? least(first, second) : most(first, second);
                decides(PERMITTING[due], "p[" + two + "];");
                for (int third = 0; third < 3; third++) {
                    due = isAll ? least(first, second, third) : most(first, second, third);
                    decides(PERMITTING[due], "p[" + two + between + MATCHES[third] + "];");
                }
            }
        }
    }

    private static void alls() {
        Due.sentence("An ALL is false if one of its matches is, else indeterminate if one is, else true");
        joined(",", true);
    }

    private static void anys() {
        Due.sentence("an ANY true if one of its alls is, else indeterminate if one is, else false");
        joined("|", false);
        decides(1, "p[c=0,a=0|L=1,c=0];");
        decides(3, "p[c=0,c=1|L=1,c=0];");
        decides(0, "p[c=0,c=1|L=1,c=1];");
    }

    private static void targets() {
        Due.sentence("a TARGET false if one of its anys is, else indeterminate if one is, else true");
        joined("&", true);
        decides(1, "p[c=1|c=0&L=1|a=0];");
        decides(3, "p[c=1|c=0&L=1|a=1];");
        decides(0, "p[L=1|c=1&c=1|a=1];");
        decides(1, "p[c=1,L=1|c=0&a=0,h=12];");
        decides(1, "p[c=0|c=1&a=0];");
        decides(1, "p[c=0|L=1&a=0&h=12];");
        decides(0, "p[c=0|L=1&a=0&h=11];");
    }

    private static void noTarget() {
        Due.sentence("(true when there is none)");
        decides(1, "p;");
        decides(2, "d;");
        decides(1, "P{p;}");
        decides(1, "O{P{p;}}");
    }

    private static void denials() {
        Due.sentence("! of indeterminate is that");
        decides(3, "p?!L=1;");
        decides(3, "p?!!L=1;");
        decides(3, "p?!(L=1|c=1);");
        decides(1, "p?!c=1;");
        decides(0, "p?!c=0;");
        decides(1, "p?!!c=0;");
        decides(0, "p?!!!c=0;");
        decides(0, "p?!!c=1;");
    }

    private static void bothAndEither() {
        Due.sentence("& is false if one is false, else indeterminate if one is;"
                + " | is true if one is true, else indeterminate if one is");
        for (int left = 0; left < 3; left++) {
            for (int right = 0; right < 3; right++) {
                String both = "(" + MATCHES[left] + "&" + MATCHES[right] + ")";
                String either = "(" + MATCHES[left] + "|" + MATCHES[right] + ")";
                decides(PERMITTING[least(left, right)], "p?" + both + ";");
                decides(PERMITTING[most(left, right)], "p?" + either + ";");
                decides(PERMITTING[2 - least(left, right)], "p?!" + both + ";");
                int nested = least(right, most(left, right));
                decides(PERMITTING[nested], "p?(" + MATCHES[right] + "&" + either + ");");
                decides(PERMITTING[nested], "p?(" + either + "&" + MATCHES[right] + ");");
            }
        }
    }

    private static void rules() {
        Due.sentence("A RULE: target false, or target true and condition false: 0; both true: its effect;"
                + " otherwise 3 of a permitting, 4 of a denying one");
        int[][] permitting = {{0, 0, 0}, {3, 3, 3}, {0, 3, 1}};
        int[][] denying = {{0, 0, 0}, {4, 4, 4}, {0, 4, 2}};
        for (int target = 0; target < 3; target++) {
            for (int condition = 0; condition < 3; condition++) {
                String rest = "[" + MATCHES[target] + "]?" + MATCHES[condition] + ";";
                decides(permitting[target][condition], "p" + rest);
                decides(denying[target][condition], "d" + rest);
            }
        }
        decides(0, "p?c=1;");
        decides(4, "d?L=1;");
    }

    private static void policiesWithAFalseTarget() {
        Due.sentence("A POLICY: target false: 0");
        for (char sign : COMBINING.toCharArray()) {
            for (String node : NODES) {
                decides(0, sign + "[c=1]{" + node + "}+1-2");
                decides(0, sign + "[L=1&c=1]{" + node + "}+1-2");
            }
        }
    }

    private static void decidesAll(char sign, int[][] due) {
        for (int first = 0; first < 6; first++) {
            decides(due[first][first], sign + "{" + NODES[first] + "}");
            for (int second = 0; second < 6; second++) {
                decides(due[first][second], sign + "{" + NODES[first] + NODES[second] + "}");
                decides(due[first][second], sign + "{" + NODES[0] + NODES[first] + NODES[0] + NODES[second]
                        + NODES[first] + "}");
            }
        }
    }

    private static void denyOverrides() {
        Due.sentence("D: 2 if there is one; else 5 if there is one, or a 4 with a 3 or 1;"
                + " else 4 if there is one; else 1 if there is one; else 3 if there is one; else 0");
        decidesAll('D', new int[][] {
            {0, 1, 2, 3, 4, 5},
            {1, 1, 2, 1, 5, 5},
            {2, 2, 2, 2, 2, 2},
            {3, 1, 2, 3, 5, 5},
            {4, 5, 2, 5, 4, 5},
            {5, 5, 2, 5, 5, 5}});
        decides(5, "D{p;p?L=1;d?L=1;}");
    }

    private static void permitOverrides() {
        Due.sentence("P: the same with 1 and 2, 3 and 4 changed");
        decidesAll('P', new int[][] {
            {0, 1, 2, 3, 4, 5},
            {1, 1, 1, 1, 1, 1},
            {2, 1, 2, 5, 2, 5},
            {3, 1, 5, 3, 5, 5},
            {4, 1, 2, 5, 4, 5},
            {5, 1, 5, 5, 5, 5}});
        decides(5, "P{d;d?L=1;p?L=1;}");
    }

    private static void firstApplicable() {
        Due.sentence("F: the first that is not 0 (0 if there is none)");
        int[][] due = new int[6][6];
        for (int first = 0; first < 6; first++) {
            for (int second = 0; second < 6; second++) {
                due[first][second] = first == 0 ? second : first;
            }
        }
        decidesAll('F', due);
        decides(0, "F{p[c=1];d?c=1;F{p[c=1];}}");
    }

    private static void denyUnlessPermit() {
        Due.sentence("X: 1 if there is one, else 2");
        int[][] due = new int[6][6];
        for (int first = 0; first < 6; first++) {
            for (int second = 0; second < 6; second++) {
                due[first][second] = first == 1 || second == 1 ? 1 : 2;
            }
        }
        decidesAll('X', due);
    }

    private static void permitUnlessDeny() {
        Due.sentence("Y: 2 if there is one, else 1");
        int[][] due = new int[6][6];
        for (int first = 0; first < 6; first++) {
            for (int second = 0; second < 6; second++) {
                due[first][second] = first == 2 || second == 2 ? 2 : 1;
            }
        }
        decidesAll('Y', due);
    }

    private static void onlyOneOfUnsureTargets() {
        Due.sentence("O: if the target of one of its nodes is indeterminate");
        decides(5, "O{P[L=1]{p;}}");
        decides(5, "O{P[L=1]{p[c=1];}}");
        decides(5, "O{P[L=1]{p;}D[c=1]{d;}}");
        decides(5, "O{D[c=1]{d;}P[L=1]{p;}}");
        decides(5, "O{D[c=0]{d;}P[L=1]{p;}}");
        decides(5, "O{P[L=1]{p;}D[c=0]{d;}}");
        decides(5, "O{P[L=1]{p;}P[S=1]{p;}}");
    }

    private static void onlyOneOfSeveral() {
        Due.sentence("or those of two or more are true, 5");
        decides(5, "O{P{p;}P{p;}}");
        decides(5, "O{P{p;}P[c=1]{p;}P{p;}}");
        decides(5, "O{P{p;}P{p;}P{p;}}");
        decides(5, "O{P{p[c=1];}P{p[c=1];}}");
        decides(5, "O{P{p;}P{p[c=1];}}");
    }

    private static void onlyOneOfOne() {
        Due.sentence("if just one's is, its value");
        for (int value = 0; value < 6; value++) {
            decides(value, "O{" + NODES[value] + "}");
            decides(value, "O{" + NODES[value] + "P[c=1]{p;}}");
            decides(value, "O{P[c=1]{p;}D[c=1]{d;}" + NODES[value] + "}");
        }
        decides(1, "O{O{O[c=1]{P{d;}}P{p;}}}");
        decides(5, "O{O{P{d;}P{p;}}}");
    }

    private static void onlyOneOfNone() {
        Due.sentence("else 0");
        decides(0, "O{P[c=1]{p;}}");
        decides(0, "O{X[c=1]{p;}Y[a=1]{p;}O[h=1]{P{p;}}}");
    }

    private static void unsureTargets() {
        Due.sentence("with an indeterminate target: 0 stays, 1 becomes 3, 2 becomes 4, others stay");
        int[] due = {0, 3, 4, 3, 4, 5};
        for (int value = 0; value < 6; value++) {
            for (String sign : new String[] {"D", "P", "F", "O"}) {
                decides(due[value], sign + "[L=1]{" + NODES[value] + "}+1-2");
            }
            decides(value == 1 ? 3 : 4, "X[S=1]{" + NODES[value] + "}+1-2");
            decides(value == 2 ? 4 : 3, "Y[S=1]{" + NODES[value] + "}+1-2");
        }
        decides(5, "D{F[L=1]{d;}F[L=1]{p;}}");
    }

    private static void dutiesOfPermitAndDenyAlone() {
        Due.sentence("DUTIES of the decision, when it is 1 or 2");
        decides(21, "p+1;");
        decides(22, "d+1;");
        decides(0, "p[c=1]+1;");
        decides(3, "p[L=1]+1;");
        decides(4, "d?L=1+1;");
        decides(3, "F[L=1]{p+1;}+2-3");
        decides(4, "F[L=1]{d+1;}+2-3");
        decides(5, "D{p?L=1+1;d?L=1+2;}+3-4");
        decides(5, "O{P{p+1;}+2P{p+3;}+4}+5-6");
        decides(0, "F{p[c=1]+1;}+2-3");
    }

    private static void ownDuties() {
        Due.sentence("its own (of a policy those for the value, of a rule its own)");
        decides(41, "F{p;}+2-3");
        decides(82, "F{d;}+2-3");
        decides(1, "F{p;}-3");
        decides(2, "F{d;}+2");
        decides(42, "X{p[c=1]+7;}+1-2");
        decides(21, "Y{d[c=1]+7;}+1-2");
    }

    private static void dutiesOfNodes() {
        Due.sentence("and those of its nodes that have the same value");
        decides(31, "P{p+0;p+1;d+2;p[c=1]+3;p?L=1+4;}");
        decides(32, "D{d+0;d+1;p+2;d[c=1]+3;d?L=1+4;}");
        decides(31, "X{p+0;d+2;p+1;}");
        decides(42, "X{p[c=1]+0;d+2;d?L=1+1;}");
        decides(42, "Y{p+0;d+2;p+1;}");
        decides(51, "Y{p+0;d?L=1+3;d[c=1]+4;p+2;}");
        decides(10 * 0x1f + 1, "D{P{F{X{Y{p+0;}+1}+2}+3}+4}");
        decides(10 * 0x07 + 1, "D{P{p+0;}+1-5p+2;F[c=1]{p+6;}+7}-4");
        decides(10 * 0x05 + 1, "P{p+0;F[L=1]{p+1;}+1F{p+2;d+3;}-4}");
    }

    private static void dutiesOfTheOneThatCounted() {
        Due.sentence("(of F and O of the one alone that counted)");
        decides(21, "F{p[c=1]+0;p+1;p+2;}");
        decides(22, "F{d+1;d+2;p+3;}");
        decides(10 * 0x0a + 1, "F{p+1;p+2;}+3-4");
        decides(10 * 0x0e + 1, "O{P[c=1]{p+0;}+0P{p+1;}+2}+3-4");
        decides(10 * 0x16 + 2, "O{P{d+1;}-2P[a=1]{d+0;}-0}+3-4");
        decides(10 * 0x12 + 1, "D{F{p+1;p+2;}+4}");
    }

    private static void dutiesAsASet() {
        Due.sentence("As a set (bit k for duty k)");
        for (int duty = 0; duty < 8; duty++) {
            decides(10 * (1 << duty) + 1, "p+" + duty + ";");
            decides(10 * (1 << duty) + 2, "d+" + duty + ";");
            decides(10 * (1 << duty) + 1, "P{p+" + duty + ";p+" + duty + ";}+" + duty + "-" + duty);
            decides(10 * (1 << duty) + 2, "D{p;d;}-" + duty);
        }
        decides(2551, "p+01234567;");
        decides(2552, "D{D{D{D{D{d+0;d+1;}-2}-3}-4}-5}-67");
    }

    private static void fortyNodes() {
        Due.sentence("At most 5 policies within one another, 40 nodes");
        for (char sign : "DPX".toCharArray()) {
            decides(1, sign + "{" + "p;".repeat(39) + "}");
            decides(10 * 0x81 + 1, sign + "{p+0;" + "p;".repeat(37) + "p+7;}");
        }
        decides(1, "X{" + "d;".repeat(38) + "p;}");
        decides(2, "Y{" + "p;".repeat(38) + "d;}");
        decides(2, "D{" + "p;".repeat(38) + "d;}");
        decides(1, "P{" + "d;".repeat(38) + "p;}");
        decides(21, "F{" + "d[c=1];".repeat(38) + "p+1;}");
        decides(0, "F{" + "d[c=1];".repeat(39) + "}");
        decides(21, "O{" + "D[c=1]{d;}".repeat(18) + "P{p+1;p?c=1;}}");
        decides(5, "O{" + "D[c=1]{d;}".repeat(17) + "P{d;}P{p;p;}}");
    }

    private static void fivePoliciesWithin() {
        Due.sentence("At most 5 policies within one another, 40 nodes");
        decides(10 * 0x3f + 1, "D{P{F{X{Y{p+0;}+1}+2}+3}+4}+5-6");
        decides(10 * 0x3f + 2, "Y{X{F{P{D{d+0;}-1}-2}-3}-4}+6-5");
        decides(4, "D{P{F{D{P[L=1]{d+0;}-1}-2}-3}-4}+6-5");
        decides(10 * 0x03 + 2, "X{D{P{F{D[c=1]{p+7;}+6}}}d+0;}-1");
    }

    private static void sixBrackets() {
        Due.sentence("at most 6 brackets within one another");
        for (int last = 0; last < 3; last++) {
            String match = MATCHES[last];
            int due = PERMITTING[last];
            decides(due, "p?(c=0&(c=0&(c=0&(c=0&(c=0&(c=0&" + match + "))))));");
            decides(due, "p?(c=1|(c=1|(c=1|(c=1|(c=1|(c=1|" + match + "))))));");
            decides(due, "p?((((((" + match + "&c=0)&c=0)&c=0)&c=0)&c=0)&c=0);");
            decides(due, "p?((((((" + match + "|c=1)&c=0)|c=1)&c=0)|c=1)&c=0);");
            decides(due, "p?!(!(!(!(!(!(" + match + "|c=1)&c=0)|c=1)&c=0)|c=1)&c=0);");
            decides(due, "p?(c=1|(c=0&(c=1|(c=0&(c=1|(c=0&" + match + "))))));");
        }
        decides(0, "p?(c=1&(c=0|(c=1&(c=0|(c=1&(c=0|c=0))))));");
        decides(1, "p?(c=0|(c=1&(c=1&(c=1&(c=1&(c=1&c=1))))));");
    }

    private static void longestTargets() {
        Due.sentence("POLICIES are one text of at most 300 bytes");
        decides(1, "p[" + "a=0,".repeat(73) + "h=12];");
        decides(0, "p[" + "a=0,".repeat(73) + "h=13];");
        decides(1, "p[" + "a=1|".repeat(73) + "h=12];");
        decides(0, "p[" + "a=1|".repeat(73) + "h=13];");
        decides(3, "p[" + "a=0&".repeat(73) + "L=12];");
        decides(1, "p?" + "!".repeat(294) + "a=0;");
        decides(0, "p?" + "!".repeat(294) + "a=1;");
        decides(0, "p?" + "!".repeat(293) + "a=0;");
    }

    /** What an earlier and longer text has left behind must not be seen. */
    private static void oneTextAfterAnother() {
        Due.sentence("The tape (used up, also when this throws) becomes the policy");
        AccessDesk desk = new AccessDesk();
        desk.open(0, 0);
        for (int k = 0; k < 4; k++) {
            Due.load(desk, "D{" + "p;".repeat(37) + "D{d+1;}-2}-3");
            Due.answers("of 40 nodes", 10 * 0x0e + 2, () -> desk.decide(0, 0, 0, 12));
            Due.load(desk, "D{p+0;p+1;}");
            Due.answers("of three", 31, () -> desk.decide(0, 0, 0, 12));
            Due.load(desk, "p[" + "a=0,".repeat(73) + "h=13];");
            Due.answers("of 74 matches", 0, () -> desk.decide(0, 0, 0, 12));
            Due.load(desk, "F{p[a=0&L=1]?h=12;}");
            Due.answers("of three matches", 3, () -> desk.decide(0, 0, 0, 12));
        }
        Due.load(desk, "d;");
        Due.answers("of none", 2, () -> desk.decide(0, 0, 0, 12));
    }
}
