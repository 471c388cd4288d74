/**
 * The edges of the text of policies. What may follow a text that can still be right is told as the
 * set of bytes; each other one of the 256 must be wrong at its own place.
 */
public final class TextEdgeTest {
    private static final int RIGHT = -1;
    private static final String LETTERS = "aclhusrLS";
    private static final String DIGITS = "0123456789";
    private static final String DUTIES = "01234567";
    private static final String COMBINING = "DPFXYO";
    private static final String NODES = "pd" + COMBINING;
    private static final String NONE = "";

    public static void main(String[] args) {
        atMost300Bytes();
        withoutBlanks();
        rules();
        policies();
        policiesHaveNodes();
        dutiesOfPolicies();
        nodesOfOnlyOne();
        fivePoliciesWithin();
        fortyNodes();
        targets();
        targetsHaveParts();
        matches();
        numbers();
        capitals();
        conditions();
        sixBrackets();
        dutiesOfRules();
        wrongAtTheFirstByte();
        wrongAtItsLength();
        digitsOnce();
        Due.end();
    }

    private static int placeOf(String text) {
        AccessDesk desk = new AccessDesk();
        String answer = Due.load(desk, text);
        int place = desk.place();
        Due.same(text + " is taken", place == RIGHT, !answer.equals(Due.ARGUMENT));
        return place;
    }

    private static void wrong(int place, String text) {
        Due.same("place of " + text, place, placeOf(text));
    }

    private static void right(int nodes, String text) {
        AccessDesk desk = new AccessDesk();
        Due.same("nodes of " + text, String.valueOf(nodes), Due.load(desk, text));
        Due.answers("place of " + text, RIGHT, desk::place);
    }

    private static void follows(String start, String bytes) {
        for (char next = 0; next < 256; next++) {
            int place = placeOf(start + next);
            boolean isTaken = place == RIGHT || place > start.length();
            String what = start + " and byte " + (int) next;
            Due.same(what + " may follow", bytes.indexOf(next) >= 0, isTaken);
            Due.same(what + " at its place or behind", true, isTaken || place == start.length());
        }
    }

    private static void atMost300Bytes() {
        Due.sentence("POLICIES are one text of at most 300 bytes");
        String text = "p[" + "a=1,".repeat(73) + "a=12];";
        right(1, text);
        AccessDesk desk = new AccessDesk();
        Due.feed(desk, text);
        Due.refuses("a 301st byte", Due.STATE, () -> desk.feed(';', 1));
        Due.answers("it is not on the tape", 1, desk::policy);
        right(1, "p?" + "!".repeat(294) + "a=1;");
        right(34, "D{" + "p[a=123];".repeat(33) + "}");
        wrong(0, NONE);
    }

    private static void withoutBlanks() {
        Due.sentence("without blanks");
        String text = "F[c=3|l<4,S>5&r=2]{p[a=10]?!(s>3&!(L<5|u=1))+01;O{F{d+1;}+2-31}-4}+3-2";
        right(5, text);
        for (int at = 0; at <= text.length(); at++) {
            for (char blank : new char[] {' ', '\t', '\n', '\r', 0, 160, 255}) {
                wrong(at, text.substring(0, at) + blank + text.substring(at));
            }
        }
    }

    private static void rules() {
        Due.sentence("A RULE: p (permit) or d (deny), perhaps a TARGET, perhaps a CONDITION,"
                + " perhaps DUTIES, then ;");
        for (String kind : new String[] {"p", "d"}) {
            for (String target : new String[] {"", "[a=1]"}) {
                for (String condition : new String[] {"", "?a=1"}) {
                    for (String duties : new String[] {"", "+1"}) {
                        right(1, kind + target + condition + duties + ";");
                    }
                }
            }
            follows(kind, "[?+;");
            follows(kind + "[a=0]", "?+;");
            follows(kind + "[a=0]?a=0", "+;");
            follows(kind + "[a=0]?a=0+0", "1234567;");
            follows(kind + ";", NONE);
        }
    }

    private static void policies() {
        Due.sentence("A POLICY: a sign of how it COMBINES");
        follows(NONE, NODES);
        for (char sign : COMBINING.toCharArray()) {
            String node = sign == 'O' ? "D{p;}" : "p;";
            int nodes = sign == 'O' ? 3 : 2;
            right(nodes, sign + "{" + node + "}");
            right(nodes, sign + "[a=1]{" + node + "}");
            follows(String.valueOf(sign), "[{");
            follows(sign + "[a=0]", "{");
            follows(sign + "{" + node + "}", "+-");
        }
    }

    private static void policiesHaveNodes() {
        Due.sentence("{ , one or more nodes, }");
        wrong(2, "D{}");
        wrong(2, "O{}");
        follows("D{", NODES);
        follows("D{p;", NODES + "}");
        follows("D{D{p;}", NODES + "}+-");
        right(2, "D{p;}");
        right(3, "D{p;d;}");
    }

    private static void dutiesOfPolicies() {
        Due.sentence("perhaps duties for permit: + and digits 0 .. 7, then perhaps for deny: - and digits");
        follows("D{p;}+", DUTIES);
        follows("D{p;}-", DUTIES);
        follows("D{p;}+7", "0123456-");
        follows("D{p;}-7", "0123456");
        follows("D{p;}+7-", DUTIES);
        follows("D{p;}+7-0", "1234567");
        follows("D{D{p;}+7", "0123456-}" + NODES);
        follows("D{D{p;}+7-0", "1234567}" + NODES);
        right(2, "D{p;}+01234567-76543210");
        right(2, "D{p;}-01234567");
    }

    private static void nodesOfOnlyOne() {
        Due.sentence("All nodes of an O are policies");
        follows("O{", COMBINING);
        follows("O{D{p;}", COMBINING + "}+-");
        follows("O{D{p;}+1-1", "0234567}" + COMBINING);
        follows("O{D{p;", NODES + "}");
        right(6, "O{O{D{p;}}Y{d;}}");
        Due.sentence("an O's node that is a rule is wrong at its first byte");
        wrong(2, "O{p;}");
        wrong(2, "O{d;}");
        wrong(7, "O{D{p;}p;}");
        wrong(4, "D{O{p;}}");
    }

    private static void fivePoliciesWithin() {
        Due.sentence("At most 5 policies within one another");
        right(6, "D{P{F{X{Y{p;}}}}}");
        right(6, "O{O{O{O{Y{p;}}}}}");
        right(11, "D{P{F{X{Y{p;}Y{p;}}X{Y{p;}}}}}");
        Due.sentence("the sixth policy within");
        for (char sixth : COMBINING.toCharArray()) {
            wrong(10, "D{P{F{X{Y{" + sixth + "{p;}}}}}}");
            wrong(12, "D{P{F{X{Y{p;" + sixth + "{p;}}}}}}");
            wrong(15, "D{P{F{X{D{d;}Y{" + sixth + "{p;}}}}}}");
        }
        follows("D{D{D{D{D{", "pd");
        follows("D{D{D{D{D{p;", "pd}");
        follows("D{D{D{D{", NODES);
    }

    private static void fortyNodes() {
        Due.sentence("40 nodes");
        right(40, "D{" + "p;".repeat(39) + "}");
        right(40, "D{" + "D{p;}".repeat(18) + "D{d;d;}}");
        right(39, "D{" + "D{p;}".repeat(19) + "}");
        Due.sentence("the forty-first node");
        wrong(80, "D{" + "p;".repeat(40) + "}");
        wrong(80, "D{" + "d;".repeat(39) + "D{p;}}");
        wrong(98, "D{" + "D{p;}".repeat(18) + "D{d;d;d;}}");
        follows("D{" + "p;".repeat(39), "}");
        follows("D{" + "p;".repeat(38), NODES + "}");
    }

    private static void targets() {
        Due.sentence("A TARGET: [ , one or more ANY with & between, ]");
        follows("p[", LETTERS);
        follows("D[", LETTERS);
        follows("p[a=1&", LETTERS);
        follows("p[a=0", ",|&]");
        follows("p[a=0&a=0|a=0,a=0", ",|&]");
        right(1, "p[a=1&a=2&a=3];");
        right(2, "D[a=1&a=2&a=3]{p;}");
    }

    private static void targetsHaveParts() {
        Due.sentence("an any: one or more ALL with | between; an all: one or more MATCHES with , between");
        follows("p[a=1|", LETTERS);
        follows("p[a=1,", LETTERS);
        for (String between : new String[] {",", "|", "&"}) {
            wrong(6, "p[a=1" + between + "];");
            wrong(2, "p[" + between + "a=1];");
            wrong(6, "p[a=1" + between + between + "a=1];");
            right(1, "p[a=1" + between + "c=1" + between + "h=1];");
        }
        wrong(2, "p[];");
        wrong(2, "D[]{p;}");
    }

    private static void matches() {
        Due.sentence("A MATCH: an attribute's letter, = < or > (of r and u: = alone)");
        for (char letter : LETTERS.toCharArray()) {
            String signs = letter == 'r' || letter == 'u' ? "=" : "=<>";
            follows("p[" + letter, signs);
            follows("p?" + letter, signs);
            for (char sign : signs.toCharArray()) {
                right(1, "p[" + letter + sign + "0]?" + letter + sign + "0;");
                follows("p[" + letter + sign, DIGITS);
            }
        }
    }

    private static void numbers() {
        Due.sentence("a number (0 .. 999, no 0 in front)");
        for (int number : new int[] {0, 1, 9, 10, 99, 100, 998, 999}) {
            right(1, "p[a=" + number + "]?a=" + number + ";");
        }
        wrong(7, "p[a=1000];");
        wrong(7, "p[a=9990];");
        wrong(7, "p?a=1000;");
        wrong(5, "p[a=00];");
        wrong(5, "p[a=01];");
        follows("p[a=0", ",|&]");
        follows("p[a=9", DIGITS + ",|&]");
        follows("p[a=99", DIGITS + ",|&]");
        follows("p[a=999", ",|&]");
        follows("p?a=0", "+;");
        follows("p?a=99", DIGITS + "+;");
        follows("p?a=999", "+;");
    }

    private static void capitals() {
        Due.sentence("A capital letter (L, S) in place of l, s");
        right(1, "p[L=1,S<2]?(L>3&S=4);");
        for (char letter : "ACHUR".toCharArray()) {
            wrong(2, "p[" + letter + "=1];");
            wrong(2, "p?" + letter + "=1;");
        }
    }

    private static void conditions() {
        Due.sentence("A CONDITION: ? and an expression");
        follows("p?", LETTERS + "!(");
        follows("p?!", LETTERS + "!(");
        follows("p?(", LETTERS + "!(");
        follows("p?(a=0", "&|");
        follows("p?(a=0&", LETTERS + "!(");
        follows("p?(a=0|", LETTERS + "!(");
        follows("p?(a=0&a=0", ")");
        follows("p?(a=0&a=0)", "+;");
        follows("p?((a=0&a=0)", "&|");
        follows("p?(a=0&(a=0|a=0)", ")");
        follows("p?!(a=0&!a=0)", "+;");
        right(1, "p?!!!!(!a=1|!!c=2);");
    }

    private static void sixBrackets() {
        Due.sentence("at most 6 brackets within one another");
        String six = "((((((a=1&a=1)&a=1)&a=1)&a=1)&a=1)&a=1)";
        right(1, "p?" + six + ";");
        right(1, "p?!(!(!(!(!(!(a=1|a=1)|a=1)|a=1)|a=1)|a=1)|a=1);");
        right(1, "p?(a=1&(a=1&(a=1&(a=1&(a=1&(a=1&a=1))))));");
        right(1, "p?((a=1&a=1)&((a=1&a=1)&((a=1&a=1)&((a=1&a=1)&((a=1&a=1)&(a=1&a=1))))));");
        right(3, "D{p?" + six + ";p?" + six + ";}");
        Due.sentence("the seventh bracket");
        wrong(8, "p?(" + six + "&a=1);");
        wrong(12, "p?(a=1&" + six + ");");
        wrong(14, "p?!!!!!!((((((" + "(a=1&a=1)");
        follows("p?((((((", LETTERS + "!");
        follows("p?(((((", LETTERS + "!(");
        follows("p?((((((a=1&", LETTERS + "!");
        follows("p?((((((a=1&a=1)&", LETTERS + "!(");
    }

    private static void dutiesOfRules() {
        Due.sentence("DUTIES of a rule: + and digits, each 0 .. 7");
        follows("p+", DUTIES);
        follows("d+0", "1234567;");
        follows("p+0123456", "7;");
        follows("p+76543210", ";");
        wrong(2, "p+;");
        wrong(2, "p+8;");
        wrong(3, "p+08;");
        wrong(3, "p+1-1;");
        wrong(1, "p-1;");
    }

    private static void wrongAtTheFirstByte() {
        Due.sentence("A text is WRONG at the first byte with which it can't be right, whatever follows");
        wrong(3, "D{p{{{{");
        wrong(1, "p~[a=1000]");
        wrong(5, "D{p;}d;");
        wrong(2, "p;p;");
        wrong(6, "D{p;d;]O{p;}");
        wrong(2, "D{~");
        wrong(0, "~");
        wrong(0, "~p;");
    }

    private static void wrongAtItsLength() {
        Due.sentence("(its length when something is missing)");
        String text = "F[c=3|l<4,S>5&r=2]{p[a=10]?!(s>3&!(L<5|u=1))+01;O{F{d+1;}+2-31}-4}";
        right(5, text);
        for (int length = 0; length < text.length(); length++) {
            wrong(length, text.substring(0, length));
        }
        wrong(2, "p+");
        wrong(6, "D{p;}+");
        wrong(6, "D{p;}-");
        wrong(8, "D{p;}+1-");
        wrong(300, "p?" + "!".repeat(298));
        wrong(299, "p[" + "a=1,".repeat(74) + "a");
    }

    private static void digitsOnce() {
        Due.sentence("of digits each may come once");
        for (char digit : DUTIES.toCharArray()) {
            wrong(3, "p+" + digit + digit + ";");
            wrong(10, "d+01234567" + digit + ";");
            wrong(7, "D{p;}+" + digit + digit);
            wrong(7, "D{p;}-" + digit + digit);
            wrong(9, "D{p;}+" + digit + "-" + digit + digit);
            right(2, "D{p+" + digit + ";}+" + digit + "-" + digit);
        }
        wrong(4, "p+101;");
    }
}
