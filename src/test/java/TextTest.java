/** Promises 14 to 16: feed, policy, place. */
public final class TextTest {
    private static final int RIGHT = -1;

    public static void main(String[] args) {
        feedCounts();
        feedIsRefused();
        feedTakesTheLowestBytes();
        policyUsesTheTapeUp();
        policyStaysWhenWrong();
        placeOfTheLatest();
        rules();
        policies();
        targets();
        conditions();
        duties();
        depths();
        nodes();
        longest();
        everyCutText();
        Due.end();
    }

    private static void looks(int place, String text) {
        AccessDesk desk = new AccessDesk();
        String answer = Due.load(desk, text);
        Due.same(text + " is right", place == RIGHT, !answer.equals(Due.ARGUMENT));
        Due.answers("place of " + text, place, desk::place);
    }

    private static void counts(int nodes, String text) {
        AccessDesk desk = new AccessDesk();
        Due.same("nodes of " + text, String.valueOf(nodes), Due.load(desk, text));
        Due.answers("place of " + text, RIGHT, desk::place);
    }

    private static void feedCounts() {
        AccessDesk desk = new AccessDesk();
        int length = 0;
        for (int n = 1; n <= 8; n++) {
            int asked = n;
            length += n;
            Due.answers("feed of " + n, length, () -> desk.feed(-1L, asked));
        }
        for (int k = 0; k < 33; k++) {
            desk.feed(0L, 8);
        }
        Due.refuses("one more", Due.STATE, () -> desk.feed(0L, 1));
        Due.refuses("wrong and one more", Due.ARGUMENT, () -> desk.feed(0L, 9));
    }

    private static void feedIsRefused() {
        AccessDesk desk = new AccessDesk();
        for (int n : new int[] {0, -1, 9, Integer.MIN_VALUE, Integer.MAX_VALUE}) {
            Due.refuses("feed of " + n, Due.ARGUMENT, () -> desk.feed('p', n));
        }
        for (int k = 0; k < 37; k++) {
            desk.feed(0L, 8);
        }
        Due.refuses("over by one", Due.STATE, () -> desk.feed(0L, 5));
        Due.answers("just full", 300, () -> desk.feed(0L, 4));
        Due.refuses("full", Due.STATE, () -> desk.feed(0L, 1));
    }

    private static void feedTakesTheLowestBytes() {
        AccessDesk desk = new AccessDesk();
        desk.feed(0x7878787878787870L, 1);
        desk.feed(0x787878787878783bL, 1);
        Due.answers("p and ;", 1, desk::policy);
        desk.feed(0x787878787878703bL, 2);
        Due.answers("p; at once", 1, desk::policy);
        desk.feed(0xff70L, 2);
        Due.refuses("a byte of 255", Due.ARGUMENT, desk::policy);
        Due.answers("its place", 0, desk::place);
        desk.feed(0xf0bbL, 2);
        Due.refuses("p; with high bits", Due.ARGUMENT, desk::policy);
    }

    private static void policyUsesTheTapeUp() {
        AccessDesk desk = new AccessDesk();
        Due.refuses("an empty tape", Due.ARGUMENT, desk::policy);
        Due.answers("its place", 0, desk::place);
        Due.same("right", "1", Due.load(desk, "p;"));
        Due.refuses("used up when right", Due.ARGUMENT, desk::policy);
        Due.same("wrong", Due.ARGUMENT, Due.load(desk, "p[a=1"));
        Due.answers("used up when wrong", 1, () -> desk.feed('d', 1));
        Due.answers("and on", 2, () -> desk.feed(';', 1));
        Due.answers("right", 1, desk::policy);
    }

    private static void policyStaysWhenWrong() {
        AccessDesk desk = new AccessDesk();
        desk.open(0, 0);
        Due.same("wrong at first", Due.ARGUMENT, Due.load(desk, "p"));
        Due.answers("no policy yet", 0, () -> desk.decide(0, 0, 0, 0));
        Due.load(desk, "p+1;");
        Due.answers("permit", 21, () -> desk.decide(0, 0, 0, 0));
        Due.same("wrong", Due.ARGUMENT, Due.load(desk, "D{d+2;d+3;}+4-5p"));
        Due.answers("still permit", 21, () -> desk.decide(0, 0, 0, 0));
        Due.same("wrong again", Due.ARGUMENT, Due.load(desk, "D{d+2;d+3;}+4-"));
        Due.answers("and still permit", 21, () -> desk.decide(0, 0, 0, 0));
        Due.load(desk, "D{d+2;d+3;}+4-5");
        Due.answers("deny", 442, () -> desk.decide(0, 0, 0, 0));
    }

    private static void placeOfTheLatest() {
        AccessDesk desk = new AccessDesk();
        Due.answers("at first", RIGHT, desk::place);
        Due.load(desk, "p[a=1;");
        Due.answers("wrong", 5, desk::place);
        Due.feed(desk, "p");
        Due.answers("while the next one is fed", 5, desk::place);
        Due.feed(desk, ";");
        desk.policy();
        Due.answers("right", RIGHT, desk::place);
    }

    private static void rules() {
        counts(1, "p;");
        counts(1, "d;");
        counts(1, "d[a=0]?a=0+0;");
        looks(0, "");
        looks(0, ";");
        looks(0, "{p;}");
        looks(0, "x;");
        looks(0, " p;");
        looks(1, "pp;");
        looks(1, "p ;");
        looks(1, "p{");
        looks(1, "p-1;");
        looks(2, "p;;");
        looks(2, "p;d;");
        looks(6, "p[a=1]");
        looks(6, "p[a=1][a=1];");
        looks(5, "p?a=1[a=1];");
        looks(5, "p?a=1?a=1;");
        looks(3, "p+1?a=1;");
        looks(3, "p+1-1;");
    }

    private static void policies() {
        for (String sign : new String[] {"D", "P", "F", "X", "Y"}) {
            counts(3, sign + "{p;d;}");
        }
        counts(5, "O{D{p;}P{d;}}");
        counts(3, "F[a=1]{p;d;}+01-23");
        looks(0, "A{p;}");
        looks(1, "D");
        looks(1, "Dp;");
        looks(1, "D?a=1{p;}");
        looks(2, "D{");
        looks(2, "D{}");
        looks(5, "D{p;}}");
        looks(5, "D{p;};");
        looks(5, "D{p;}p;");
        looks(2, "O{p;}");
        looks(2, "O{d");
        looks(2, "O{x");
        looks(7, "O{D{p;}p;}");
        looks(7, "O{D{p;}");
        counts(4, "D{O{D{p;}}}");
        counts(5, "O{D{p;}D{d;}}");
        counts(4, "O{D{p;d;}}+1");
    }

    private static void targets() {
        for (String letter : new String[] {"a", "c", "l", "h", "s", "L", "S"}) {
            counts(1, "p[" + letter + "=0," + letter + "<1|" + letter + ">999];");
        }
        for (String letter : new String[] {"r", "u"}) {
            counts(1, "p[" + letter + "=0];");
            looks(3, "p[" + letter + "<0];");
            looks(3, "p[" + letter + ">0];");
        }
        for (String letter : new String[] {"A", "C", "H", "U", "R", "b", "!", "(", "[", "]", "="}) {
            looks(2, "p[" + letter + "=0];");
        }
        counts(1, "p[a=1|c=2,h>3&l<4];");
        counts(2, "D[a=1,a=2,a=3|a=4|a=5&a=6&a=7]{p;}");
        looks(3, "p[a]");
        looks(3, "p[a!1];");
        looks(4, "p[a=");
        looks(4, "p[a=];");
        looks(4, "p[a==1];");
        looks(4, "p[a=-1];");
        looks(5, "p[a=1");
        looks(5, "p[a=00];");
        looks(5, "p[a=09];");
        counts(1, "p[a=100];");
        looks(7, "p[a=1234];");
        looks(5, "p[a=1;");
        looks(6, "p[a=1,];");
        looks(6, "p[a=1|];");
        looks(6, "p[a=1&];");
        looks(6, "p[a=1,,a=1];");
        looks(6, "p[a=1|(a=1)];");
        looks(5, "p[a=1)];");
    }

    private static void conditions() {
        counts(1, "p?a=1;");
        counts(1, "p?!a=1;");
        counts(1, "p?!(!a=1&!!(L<3|r=999));");
        looks(2, "p?");
        looks(2, "p?;");
        looks(2, "p?[a=1];");
        looks(3, "p?!;");
        looks(3, "p?();");
        looks(6, "p?(a=1,a=1);");
        looks(6, "p?(a=1);");
        looks(7, "p?(a=1&);");
        looks(10, "p?(a=1&a=1&a=1);");
        looks(10, "p?(a=1|a=1;");
        looks(5, "p?a=1&a=1;");
        looks(5, "p?a=1);");
        looks(3, "p?r>1;");
        looks(6, "p?!!!u>1;");
    }

    private static void duties() {
        counts(1, "p+76543210;");
        looks(2, "p+;");
        looks(2, "p+8;");
        looks(3, "p+09;");
        looks(3, "p+00;");
        looks(10, "p+012345670;");
        looks(10, "p+012345678;");
        looks(3, "p+0+1;");
        counts(2, "D{p;}+0-0");
        counts(2, "D{p;}-7");
        looks(7, "D{p;}-1-2");
        looks(7, "D{p;}+1+2");
        looks(7, "D{p;}-1+2");
        looks(7, "D{p;}+11");
        looks(9, "D{p;}+1-22");
        looks(6, "D{p;}+-1");
        looks(8, "D{p;}+1-");
        counts(4, "D{D{p;}+1-1d;}");
        counts(4, "D{D{p;}-1d;}");
    }

    private static void depths() {
        counts(6, "D{D{D{D{D{p;}}}}}");
        looks(10, "D{D{D{D{D{D{p;}}}}}}");
        looks(10, "D{D{D{D{D{x");
        looks(12, "D{D{D{D{D{p;D{p;}}}}}}");
        counts(8, "D{D{D{D{D{p;}D{p;}}}}}");
        // The document names the sixth policy's own byte, not that of the O that would need it.
        looks(10, "O{O{O{O{O{D{p;}}}}}}");
        looks(10, "O{O{O{O{O{p;}}}}}");
        counts(6, "O{O{O{O{D{p;}}}}}");
        counts(1, "p?((((((a=1&a=1)&a=1)&a=1)&a=1)&a=1)&a=1);");
        counts(1, "p?(a=1&(a=1&(a=1&(a=1&(a=1&(a=1&a=1))))));");
        counts(1, "p?((a=1&(a=1|a=2))|((a=1&a=2)&(a=3|a=4)));");
        looks(8, "p?(((((((a=1&a=1)&a=1)&a=1)&a=1)&a=1)&a=1)&a=1);");
        looks(32, "p?(a=1&(a=1&(a=1&(a=1&(a=1&(a=1&(a=1&a=1)))))));");
        looks(15, "p?!(!(!(!(!(!(!(a=1&a=1)");
        counts(1, "p?" + "!".repeat(294) + "a=1;");
    }

    private static void nodes() {
        counts(40, "D{" + "p;".repeat(39) + "}");
        looks(80, "D{" + "p;".repeat(40) + "}");
        looks(80, "D{" + "p;".repeat(39) + "D{p;}}");
        counts(40, "D{" + "p;".repeat(37) + "D{d;}}");
        looks(80, "D{" + "p;".repeat(37) + "D{d;p;}}");
        // The document names the forty-first node's own byte, not that of the policy it is in.
        looks(80, "D{" + "p;".repeat(38) + "D{p;}}");
        looks(80, "D{" + "p;".repeat(39));
        counts(39, "D{" + "D{p;}".repeat(19) + "}");
    }

    private static void longest() {
        String target = "[" + "a=1,".repeat(73) + "a=12]";
        String text = "p" + target + ";";
        Due.same("its length", 300, text.length());
        counts(1, text);
        looks(299, text.substring(0, 299));
        looks(300, "p[" + "a=1,".repeat(74) + "a=");
    }

    /** A right text that is cut misses something: it is wrong at its length. */
    private static void everyCutText() {
        String text = "D[c=3|l<4,S>5&r=2]{p[a=10]?!(s>3&!(L<5|u=1))+0;O{F{d+1;}+2-31}Y[h>7]{p;}-2}+3-2";
        String last = "D[c=3|l<4,S>5&r=2]{p[a=10]?!(s>3&!(L<5|u=1))+0;O{F{d+1;}+2-31}";
        for (int length = 0; length < last.length(); length++) {
            looks(length, last.substring(0, length));
            looks(length, last.substring(0, length) + "~" + text);
        }
    }
}
