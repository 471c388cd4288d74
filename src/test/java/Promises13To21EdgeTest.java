/** Promises 13 to 21, one after another: each sentence that refuses a call or names an edge. */
public final class Promises13To21EdgeTest {
    public static void main(String[] args) {
        objectOfNoSuch();
        objectNone();
        feedOneToEight();
        feedTheLowestBytes();
        feedTheHighestFirst();
        feedAnswersHowMany();
        feedOfNoSuchNumber();
        feedMoreThan300();
        policyUsesTheTapeUp();
        policyAnswersHowManyNodes();
        policyThatIsWrong();
        policyOfAnEmptyTape();
        placeOfTheLatest();
        placeOfNone();
        decideChangesNothing();
        decideAnswersValueAndDuties();
        decideOfNoSuch();
        decideInAClosedSession();
        requestOfTargets();
        requestOfNoSuch();
        requestInAClosedSession();
        requestAnswersTheValueThen();
        requestNotCarriedOut();
        entryHowMany();
        entryOfNoSuchWhat();
        entryNotKept();
        touchTurnsBits();
        touchOfNoSuchWhat();
        touchNotKept();
        auditOfAnEmptyBook();
        auditFindsTheFirst();
        Due.end();
    }

    private static AccessDesk deskWith(String text) {
        AccessDesk desk = new AccessDesk();
        desk.open(0, 0);
        Due.load(desk, text);
        Due.answers("place of " + text, -1, desk::place);
        return desk;
    }

    private static AccessDesk deskWithRequests(int many) {
        AccessDesk desk = deskWith("p;");
        for (int k = 0; k < many; k++) {
            desk.request(0, k % 160, k % 24, k);
        }
        return desk;
    }

    private static void objectOfNoSuch() {
        Due.sentence("IllegalArgumentException: no such object or class");
        AccessDesk desk = deskWith("p[c=0]?L=0;");
        for (boolean none : new boolean[] {true, false}) {
            Due.refusesOutside("object", 15, object -> desk.object(object, 1, 0, none));
            Due.refusesOutside("class", 9, klass -> desk.object(0, klass, 0, none));
        }
        Due.answers("nothing changed", 3, () -> desk.decide(0, 0, 0, 0));
    }

    private static void objectNone() {
        Due.sentence("An object's class and level (none: without one)");
        AccessDesk desk = deskWith("F{p[c=9]?L=4;d[c=8];}");
        desk.object(15, 9, 4, false);
        Due.answers("class and level", 1, () -> desk.decide(0, 0, 15, 0));
        desk.object(15, 9, 4, true);
        Due.answers("without a level", 3, () -> desk.decide(0, 0, 15, 0));
        desk.object(15, 9, 5, false);
        Due.answers("another level", 0, () -> desk.decide(0, 0, 15, 0));
        desk.object(15, 8, 4, true);
        Due.answers("another class", 2, () -> desk.decide(0, 0, 15, 0));
        Due.answers("another object", 0, () -> desk.decide(0, 0, 14, 0));
    }

    private static long packed(String text) {
        long bytes = 0;
        for (char c : text.toCharArray()) {
            bytes = bytes << 8 | c;
        }
        return bytes;
    }

    private static void feedOneToEight() {
        Due.sentence("n bytes (1 .. 8");
        String[] texts = {"p;", "p+1;", "p+12;", "p[a=1];", "p[a=12];"};
        AccessDesk desk = new AccessDesk();
        for (String text : texts) {
            Due.answers("feed " + text, text.length(), () -> desk.feed(packed(text), text.length()));
            Due.answers("policy " + text, 1, desk::policy);
        }
        Due.answers("one", 1, () -> desk.feed('d', 1));
        Due.answers("one more", 2, () -> desk.feed(';', 1));
        Due.answers("policy", 1, desk::policy);
    }

    private static void feedTheLowestBytes() {
        Due.sentence("the lowest n");
        AccessDesk desk = new AccessDesk();
        for (int n = 2; n <= 7; n++) {
            String text = "p?a=123;".substring(0, n);
            int asked = n;
            desk.feed(packed(text) | -1L << 8 * n, asked);
            Due.refuses("bytes above " + n, Due.ARGUMENT, desk::policy);
            Due.answers("not looked at", asked, desk::place);
        }
        desk.feed(0x7070707070703b70L, 1);
        desk.feed(0x703b70703b70703bL, 1);
        Due.answers("one and one", 1, desk::policy);
    }

    private static void feedTheHighestFirst() {
        Due.sentence("the highest of these first");
        AccessDesk desk = new AccessDesk();
        desk.feed(0x703bL, 2);
        Due.answers("p;", 1, desk::policy);
        desk.feed(0x3b70L, 2);
        Due.refuses(";p", Due.ARGUMENT, desk::policy);
        Due.answers("wrong at its first byte", 0, desk::place);
        desk.feed(0xff3f613d313b3b3bL, 8);
        Due.refuses("a highest byte of 255", Due.ARGUMENT, desk::policy);
        Due.answers("wrong there", 0, desk::place);
        desk.feed(0x703f613d31323380L, 8);
        Due.refuses("a lowest byte of 128", Due.ARGUMENT, desk::policy);
        Due.answers("wrong there", 7, desk::place);
    }

    private static void feedAnswersHowMany() {
        Due.sentence("more on the tape: how many");
        AccessDesk desk = new AccessDesk();
        int length = 0;
        for (int n = 1; n <= 8; n++) {
            length += n;
            int asked = n;
            Due.answers("how many", length, () -> desk.feed(0L, asked));
        }
        for (int k = 0; k < 33; k++) {
            length += 8;
            Due.answers("how many", length, () -> desk.feed(-1L, 8));
        }
    }

    private static void feedOfNoSuchNumber() {
        Due.sentence("IllegalArgumentException: n is not so");
        AccessDesk desk = new AccessDesk();
        for (int n : new int[] {Integer.MIN_VALUE, -8, -1, 0, 9, 16, 257, Integer.MAX_VALUE}) {
            Due.refuses("n " + n, Due.ARGUMENT, () -> desk.feed('p', n));
        }
        Due.answers("nothing is on the tape", 1, () -> desk.feed('p', 1));
        for (int k = 0; k < 37; k++) {
            desk.feed(0L, 8);
        }
        desk.feed(0L, 3);
        Due.refuses("n 0 of a full tape", Due.ARGUMENT, () -> desk.feed('p', 0));
        Due.refuses("n 9 of a full tape", Due.ARGUMENT, () -> desk.feed('p', 9));
    }

    private static void feedMoreThan300() {
        Due.sentence("IllegalStateException: there would be more than 300");
        for (int fed = 293; fed <= 300; fed++) {
            AccessDesk desk = new AccessDesk();
            int length = fed;
            for (int k = 0; k < 36; k++) {
                desk.feed(0L, 8);
            }
            desk.feed(0L, 4);
            desk.feed(0L, length - 292);
            for (int n = 301 - length; n <= 8; n++) {
                int asked = n;
                Due.refuses(n + " beside " + length, Due.STATE, () -> desk.feed(0L, asked));
            }
            if (length < 300) {
                Due.answers("just 300", 300, () -> desk.feed(0L, 300 - length));
            }
            Due.refuses("one more", Due.STATE, () -> desk.feed(0L, 1));
            Due.refuses("the tape is wrong", Due.ARGUMENT, desk::policy);
            Due.answers("room again", 8, () -> desk.feed(0L, 8));
        }
    }

    private static void policyUsesTheTapeUp() {
        Due.sentence("The tape (used up, also when this throws) becomes the policy");
        AccessDesk desk = deskWith("p;");
        Due.answers("used up when right", 1, () -> desk.feed('p', 1));
        Due.refuses("wrong", Due.ARGUMENT, desk::policy);
        Due.answers("used up when wrong", 2, () -> desk.feed(packed("d;"), 2));
        Due.answers("right", 1, desk::policy);
        Due.answers("it became the policy", 2, () -> desk.decide(0, 0, 0, 0));
    }

    private static void policyAnswersHowManyNodes() {
        Due.sentence("becomes the policy: how many nodes");
        AccessDesk desk = new AccessDesk();
        String[] texts = {"p;", "D{p;}", "D{p;d;}", "O{D{p;}P{d;}}", "D{" + "p;".repeat(39) + "}", "d;"};
        int[] nodes = {1, 2, 3, 5, 40, 1};
        for (int k = 0; k < texts.length; k++) {
            Due.same("nodes of " + texts[k], String.valueOf(nodes[k]), Due.load(desk, texts[k]));
        }
    }

    private static void policyThatIsWrong() {
        Due.sentence("IllegalArgumentException: it is wrong (the policy stays)");
        AccessDesk desk = new AccessDesk();
        desk.open(0, 0);
        Due.same("wrong", Due.ARGUMENT, Due.load(desk, "p"));
        Due.answers("still none", 0, () -> desk.decide(0, 0, 0, 0));
        Due.load(desk, "D[c=0]{p?(a=0|L=1)+1;}+2");
        String[] wrong = {"", "d", "D[c=1]{d?(a=1&L=2)+3;}+4-", "d;d;", "D{d;d;d;}+3-44", "O{d;}"};
        for (String text : wrong) {
            Due.same("wrong " + text, Due.ARGUMENT, Due.load(desk, text));
            Due.answers("it stays after " + text, 61, () -> desk.decide(0, 0, 0, 0));
        }
        Due.load(desk, "d;");
        Due.answers("another one", 2, () -> desk.decide(0, 0, 0, 0));
        Due.same("wrong", Due.ARGUMENT, Due.load(desk, "p;p"));
        Due.answers("stays too", 2, () -> desk.decide(0, 0, 0, 0));
    }

    private static void policyOfAnEmptyTape() {
        Due.sentence("(its length when something is missing)");
        AccessDesk desk = new AccessDesk();
        Due.refuses("at first", Due.ARGUMENT, desk::policy);
        Due.answers("place", 0, desk::place);
        Due.load(desk, "p;");
        Due.answers("right", -1, desk::place);
        Due.refuses("used up", Due.ARGUMENT, desk::policy);
        Due.answers("place", 0, desk::place);
    }

    private static void placeOfTheLatest() {
        Due.sentence("Where the latest text was wrong; -1 when it was right");
        AccessDesk desk = new AccessDesk();
        Due.load(desk, "p[a=1;");
        Due.answers("wrong", 5, desk::place);
        Due.answers("asked again", 5, desk::place);
        Due.load(desk, "x");
        Due.answers("the latest", 0, desk::place);
        desk.feed(packed("p[a"), 3);
        Due.answers("not the one that is fed", 0, desk::place);
        desk.feed(packed("=1];"), 4);
        Due.answers("nor when it is whole", 0, desk::place);
        desk.policy();
        Due.answers("right", -1, desk::place);
        Due.refuses("a refused feed", Due.ARGUMENT, () -> desk.feed(0L, 0));
        Due.answers("is no text", -1, desk::place);
    }

    private static void placeOfNone() {
        Due.sentence("or there was none");
        AccessDesk desk = new AccessDesk();
        Due.answers("at first", -1, desk::place);
        desk.feed('x', 1);
        Due.answers("fed alone", -1, desk::place);
    }

    private static void decideChangesNothing() {
        Due.sentence("The decision of a request (nothing changes)");
        AccessDesk desk = deskWith("F{p[a=2]+4;p;}");
        String before = Due.picture(desk);
        for (int k = 0; k < 5; k++) {
            Due.answers("decide", 161, () -> desk.decide(0, 2, 0, 9));
            Due.answers("decide of a put", 1, () -> desk.decide(0, 1, 0, 9));
        }
        Due.same("what is seen", before, Due.picture(desk));
        for (int sum = 1; sum <= 3; sum++) {
            int due = sum;
            Due.answers("request", due, () -> desk.request(0, 32, 9, 1));
        }
        Due.answers("decide when it can't be carried out", 161, () -> desk.decide(0, 2, 0, 9));
    }

    private static void decideAnswersValueAndDuties() {
        Due.sentence("its value, and 10 times the set of its duties");
        String[] texts = {"p[c=1]+7;", "p+7;", "d+07;", "p?L=1+7;", "d?L=1+7;",
            "D{p?L=1+7;d?L=1+7;}+7-7", "p+01234567;"};
        int[] due = {0, 1281, 1292, 3, 4, 5, 2551};
        for (int k = 0; k < texts.length; k++) {
            AccessDesk desk = deskWith(texts[k]);
            Due.answers("decision by " + texts[k], due[k], () -> desk.decide(0, 0, 0, 0));
        }
    }

    private static void decideOfNoSuch() {
        Due.sentence("IllegalArgumentException: no such session, action, object or hour");
        AccessDesk desk = deskWith("p;");
        Due.refusesOutside("session", 5, session -> desk.decide(session, 0, 0, 0));
        Due.refusesOutside("action", 9, action -> desk.decide(0, action, 0, 0));
        Due.refusesOutside("object", 15, object -> desk.decide(0, 0, object, 0));
        Due.refusesOutside("hour", 23, hour -> desk.decide(0, 0, 0, hour));
        Due.answers("the last of each", 1, () -> desk.decide(0, 9, 15, 23));
    }

    private static void decideInAClosedSession() {
        Due.sentence("IllegalStateException: the session is closed");
        AccessDesk desk = deskWith("p;");
        for (int session = 1; session < 6; session++) {
            int asked = session;
            Due.refuses("session " + session, Due.STATE, () -> desk.decide(asked, 0, 0, 0));
        }
        desk.close(0);
        Due.refuses("closed again", Due.STATE, () -> desk.decide(0, 0, 0, 0));
        Due.refuses("and no such action", Due.ARGUMENT, () -> desk.decide(0, 10, 0, 0));
        Due.refuses("and no such object", Due.ARGUMENT, () -> desk.decide(0, 0, 16, 0));
        Due.refuses("and no such hour", Due.ARGUMENT, () -> desk.decide(0, 0, 0, 24));
    }

    private static void requestOfTargets() {
        Due.sentence("A request (target is 16 * action + object)");
        AccessDesk desk = deskWith("p;");
        for (int target = 0; target < 160; target++) {
            int asked = target;
            Due.answers("target " + target, 0, () -> desk.request(0, asked, 0, 0));
            Due.answers("its action", target / 16, () -> desk.entry(asked, 1));
            Due.answers("its object", target % 16, () -> desk.entry(asked, 2));
        }
    }

    private static void requestOfNoSuch() {
        Due.sentence("IllegalArgumentException, IllegalStateException: as of decide()");
        AccessDesk desk = deskWith("p;");
        Due.refusesOutside("session", 5, session -> desk.request(session, 0, 0, 0));
        Due.refusesOutside("target", 159, target -> desk.request(0, target, 0, 0));
        Due.refusesOutside("hour", 23, hour -> desk.request(0, 0, hour, 0));
        Due.answers("the book has none", 0, () -> desk.entry(-1, 0));
        Due.answers("the last of each", 0, () -> desk.request(0, 159, 23, 0));
    }

    private static void requestInAClosedSession() {
        Due.sentence("IllegalArgumentException, IllegalStateException: as of decide()");
        AccessDesk desk = deskWith("p;");
        desk.close(0);
        for (int session = 0; session < 6; session++) {
            int asked = session;
            Due.refuses("session " + session, Due.STATE, () -> desk.request(asked, 0, 0, 0));
        }
        Due.refuses("and no such target", Due.ARGUMENT, () -> desk.request(0, 160, 0, 0));
        Due.refuses("and no such hour", Due.ARGUMENT, () -> desk.request(0, 0, -1, 0));
        Due.answers("the book has none", 0, () -> desk.entry(-1, 0));
    }

    private static void requestAnswersTheValueThen() {
        Due.sentence("the object's value then (of all actions), when it is carried out");
        AccessDesk desk = deskWith("p;");
        Due.answers("put", 40, () -> desk.request(0, 16 + 3, 0, 40));
        Due.answers("add", 42, () -> desk.request(0, 32 + 3, 0, 2));
        for (int action = 0; action < 10; action++) {
            if (action != 1 && action != 2) {
                int target = 16 * action + 3;
                Due.answers("target " + target, 42, () -> desk.request(0, target, 0, 7));
            }
        }
    }

    private static void requestNotCarriedOut() {
        Due.sentence("UnsupportedOperationException: it is not carried out (the book has it all the same)");
        AccessDesk desk = deskWith("F{d[a=1]+3;p[a=2]+6;p[a=3]+5;}");
        int[][] due = {{1, 2, 8}, {2, 1, 64}, {3, 1, 32}, {4, 0, 0}};
        for (int k = 0; k < due.length; k++) {
            int[] row = due[k];
            int entry = k;
            Due.refuses("action " + row[0], Due.UNSUPPORTED, () -> desk.request(0, 16 * row[0], 7, 1));
            Due.answers("how many", entry + 1, () -> desk.entry(-1, 0));
            Due.answers("action", row[0], () -> desk.entry(entry, 1));
            Due.answers("decision", row[1], () -> desk.entry(entry, 3));
            Due.answers("duties", row[2], () -> desk.entry(entry, 4));
            Due.answers("not carried out", 0, () -> desk.entry(entry, 5));
        }
    }

    private static void entryHowMany() {
        Due.sentence("How many requests there were (k -1; what is looked at all the same)");
        for (int many : new int[] {0, 1, 40, 41, 100}) {
            AccessDesk desk = deskWithRequests(many);
            for (int what = 0; what < 7; what++) {
                int asked = what;
                Due.answers("how many, what " + what, many, () -> desk.entry(-1, asked));
            }
            Due.refusesOutside("how many, what", 6, what -> desk.entry(-1, what));
        }
    }

    private static void entryOfNoSuchWhat() {
        Due.sentence("IllegalArgumentException: no such what");
        AccessDesk desk = deskWithRequests(41);
        Due.refusesOutside("what", 6, what -> desk.entry(1, what));
        Due.refusesOutside("of an entry that is not kept, what", 6, what -> desk.entry(0, what));
        Due.refusesOutside("of an entry that is not yet, what", 6, what -> desk.entry(41, what));
    }

    private static void entryNotKept() {
        Due.sentence("IndexOutOfBoundsException: it is not kept");
        for (int many : new int[] {0, 1, 40, 41, 100}) {
            AccessDesk desk = deskWithRequests(many);
            int first = Math.max(0, many - 40);
            int before = first == 0 ? -2 : first - 1;
            int[] others = {Integer.MIN_VALUE, -41, -40, -2, before, many, many + 1, many + 40,
                Integer.MAX_VALUE};
            for (int k : others) {
                for (int what = 0; what < 7; what++) {
                    int asked = what;
                    Due.refuses("entry " + k + " of " + many, Due.INDEX, () -> desk.entry(k, asked));
                }
            }
            for (int k = first; k < many; k++) {
                int kept = k;
                Due.answers("entry " + k + " of " + many, k % 16, () -> desk.entry(kept, 2));
            }
        }
    }

    private static void touchTurnsBits() {
        Due.sentence("bits of number what (0 .. 5) of an entry are turned");
        AccessDesk desk = deskWithRequests(3);
        for (int what = 0; what < 6; what++) {
            for (int bits : new int[] {1, 0x80000000, -1}) {
                int asked = what;
                int before = desk.entry(1, what);
                Due.works("touch", () -> desk.touch(1, asked, bits));
                Due.answers("number " + what, before ^ bits, () -> desk.entry(1, asked));
                Due.answers("audit", 1, desk::audit);
                Due.works("touch again", () -> desk.touch(1, asked, bits));
                Due.answers("turned back", before, () -> desk.entry(1, asked));
                Due.answers("audit", -1, desk::audit);
            }
        }
        Due.works("no bits", () -> desk.touch(1, 0, 0));
        Due.answers("audit", -1, desk::audit);
    }

    private static void touchOfNoSuchWhat() {
        Due.sentence("Test-side: bits of number what (0 .. 5)");
        AccessDesk desk = deskWithRequests(41);
        Due.refusesOutside("what", 5, what -> desk.touch(1, what, 1));
        Due.fails("the link", Due.ARGUMENT, () -> desk.touch(1, 6, 1));
        Due.refusesOutside("of an entry that is not kept, what", 5, what -> desk.touch(0, what, 1));
        Due.refusesOutside("of no entry, what", 5, what -> desk.touch(-1, what, 1));
        Due.answers("nothing is turned", -1, desk::audit);
    }

    private static void touchNotKept() {
        Due.sentence("IllegalArgumentException, IndexOutOfBoundsException: likewise");
        for (int many : new int[] {0, 1, 40, 41, 100}) {
            AccessDesk desk = deskWithRequests(many);
            int first = Math.max(0, many - 40);
            int[] others = {Integer.MIN_VALUE, -40, -2, -1, first - 1, many, many + 40, Integer.MAX_VALUE};
            for (int k : others) {
                Due.fails("touch " + k + " of " + many, Due.INDEX, () -> desk.touch(k, 0, 1));
            }
            Due.answers("nothing is turned", -1, desk::audit);
        }
    }

    private static void auditOfAnEmptyBook() {
        Due.sentence("-1 when all are");
        Due.answers("of an empty book", -1, new AccessDesk()::audit);
        for (int many : new int[] {1, 39, 40, 41, 80, 81}) {
            Due.answers("of " + many, -1, deskWithRequests(many)::audit);
        }
    }

    private static void auditFindsTheFirst() {
        Due.sentence("The first kept entry whose link is not what it must be");
        for (int many : new int[] {1, 40, 41, 100}) {
            AccessDesk desk = deskWithRequests(many);
            int first = Math.max(0, many - 40);
            for (int k = many - 1; k >= first; k--) {
                int due = k;
                desk.touch(k, k % 6, 1 << k % 32);
                Due.answers("of " + many, due, desk::audit);
            }
            desk.touch(first, first % 6, 1 << first % 32);
            Due.answers("the first one turned back", many == 1 ? -1 : first + 1, desk::audit);
        }
    }
}
