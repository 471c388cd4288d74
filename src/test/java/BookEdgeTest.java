/** The edges of the book: which entries are kept, how they are linked, and what an audit finds. */
public final class BookEdgeTest {
    private static final int FIRST_LINK = 1469598103;
    private static final int FACTOR = 16777619;

    public static void main(String[] args) {
        entryForEachRequest();
        noEntryForOtherCalls();
        sixNumbers();
        firstLink();
        linksAsInts();
        linksOfManyEntries();
        numbersFromZeroOn();
        latestForty();
        theLinkBeforeThem();
        theTouchedLinkBeforeThem();
        linksFollowLinks();
        Due.end();
    }

    private static AccessDesk deskWith(String text) {
        AccessDesk desk = new AccessDesk();
        for (int session = 0; session < 6; session++) {
            desk.open(session, session);
        }
        Due.load(desk, text);
        return desk;
    }

    private static AccessDesk deskWithRequests(int many) {
        AccessDesk desk = deskWith("p;");
        for (int k = 0; k < many; k++) {
            desk.request(k % 6, k % 160, k % 24, k);
        }
        return desk;
    }

    private static int link(int before, int... numbers) {
        int link = before;
        for (int number : numbers) {
            link = (link ^ number) * FACTOR;
        }
        return link;
    }

    /** Of entry k of deskWithRequests. */
    private static int linkOf(int before, int k) {
        return link(before, k % 6, k % 160 / 16, k % 16, 1, 0, 1, k);
    }

    private static void entryForEachRequest() {
        Due.sentence("THE BOOK has an entry for each request");
        AccessDesk desk = deskWith("F{p[a=0];d[a=1];p[a=2]+6;p[a=3,L=1];}");
        Due.answers("at first", 0, () -> desk.entry(-1, 0));
        for (int action = 0; action < 5; action++) {
            int asked = action;
            Due.outcome((Runnable) () -> desk.request(0, 16 * asked, 9, 0));
            Due.answers("after action " + action, action + 1, () -> desk.entry(-1, 0));
        }
    }

    private static void noEntryForOtherCalls() {
        Due.sentence("THE BOOK has an entry for each request");
        AccessDesk desk = deskWith("p;");
        desk.close(5);
        desk.decide(0, 0, 0, 0);
        Due.refuses("session 6", Due.ARGUMENT, () -> desk.request(6, 0, 0, 0));
        Due.refuses("target 160", Due.ARGUMENT, () -> desk.request(0, 160, 0, 0));
        Due.refuses("hour 24", Due.ARGUMENT, () -> desk.request(0, 0, 24, 0));
        Due.refuses("closed", Due.STATE, () -> desk.request(5, 0, 0, 0));
        Due.answers("none", 0, () -> desk.entry(-1, 0));
        Due.refuses("no entry 0", Due.INDEX, () -> desk.entry(0, 0));
    }

    private static void sixNumbers() {
        Due.sentence("session, action, object, decision, duties, whether it was carried out");
        AccessDesk desk = deskWith("F{p[a=9]+0123;d[a=8]+67;p[a=7]+7;p[a=6,L=1]+1;d?(a=5&L=1)+1;"
                + "D[a=4]{p?L=1;d?L=1;}}");
        int[][] due = {
            {5, 9, 15, 1, 15, 1}, {0, 8, 0, 2, 192, 0}, {1, 7, 14, 1, 128, 0}, {2, 6, 1, 3, 0, 0},
            {3, 5, 13, 4, 0, 0}, {4, 4, 2, 5, 0, 0}, {5, 0, 15, 0, 0, 0}};
        int before = FIRST_LINK;
        for (int k = 0; k < due.length; k++) {
            int[] numbers = due[k];
            int entry = k;
            Due.outcome((Runnable) () -> desk.request(numbers[0], 16 * numbers[1] + numbers[2], 9, 0));
            for (int what = 0; what < 6; what++) {
                int asked = what;
                Due.answers("number " + what + " of " + k, numbers[what], () -> desk.entry(entry, asked));
            }
            before = link(link(before, numbers), k);
            int link = before;
            Due.answers("link of " + k, link, () -> desk.entry(entry, 6));
        }
        Due.answers("audit", -1, desk::audit);
    }

    private static void firstLink() {
        Due.sentence("h is the link before (1469598103 at first, an int)");
        AccessDesk desk = deskWith("d[a=9];");
        Due.outcome((Runnable) () -> desk.request(0, 0, 0, 0));
        Due.answers("of seven zeros", link(FIRST_LINK, 0, 0, 0, 0, 0, 0, 0), () -> desk.entry(0, 6));
        Due.answers("the same, multiplied out", -1209701619, () -> desk.entry(0, 6));
    }

    private static void linksAsInts() {
        Due.sentence("h becomes (h exclusive-or the number) times 16777619 (as an int)");
        AccessDesk desk = deskWithRequests(1);
        long wide = FIRST_LINK;
        for (int number : new int[] {0, 0, 0, 1, 0, 1, 0}) {
            wide = (wide ^ number) * FACTOR & 0xFFFFFFFFL;
        }
        int due = (int) wide;
        Due.answers("as the lowest 32 bits", due, () -> desk.entry(0, 6));
    }

    private static void linksOfManyEntries() {
        Due.sentence("then for each of these six numbers (and then the entry's number, from 0 on)");
        AccessDesk desk = deskWith("p;");
        int before = FIRST_LINK;
        for (int k = 0; k < 220; k++) {
            desk.request(k % 6, k % 160, k % 24, k);
            before = linkOf(before, k);
            int entry = k;
            int link = before;
            Due.answers("link of " + k, link, () -> desk.entry(entry, 6));
        }
        Due.answers("audit", -1, desk::audit);
    }

    /** All requests are alike, so that nothing but the number and the link before differ. */
    private static void numbersFromZeroOn() {
        Due.sentence("(and then the entry's number, from 0 on)");
        AccessDesk desk = deskWith("p;");
        int before = FIRST_LINK;
        for (int k = 0; k < 45; k++) {
            desk.request(0, 0, 0, 0);
            before = link(before, 0, 0, 0, 1, 0, 1, k);
            int entry = k;
            int link = before;
            Due.answers("link of " + k, link, () -> desk.entry(entry, 6));
        }
    }

    private static void latestForty() {
        Due.sentence("The latest 40 are kept");
        for (int many : new int[] {0, 1, 39, 40, 41, 79, 80, 81, 121}) {
            AccessDesk desk = deskWithRequests(many);
            int first = Math.max(0, many - 40);
            Due.answers("how many", many, () -> desk.entry(-1, 6));
            Due.refuses("behind the last", Due.INDEX, () -> desk.entry(many, 0));
            Due.refuses("before the first", Due.INDEX, () -> desk.entry(first == 0 ? -2 : first - 1, 0));
            Due.fails("touch behind the last", Due.INDEX, () -> desk.touch(many, 0, 1));
            Due.fails("touch before the first", Due.INDEX, () -> desk.touch(first - 1, 0, 1));
            Due.answers("audit", -1, desk::audit);
            if (many > 0) {
                Due.answers("the first", first % 6, () -> desk.entry(first, 0));
                Due.answers("the last", (many - 1) % 6, () -> desk.entry(many - 1, 0));
                Due.works("touch the last", () -> desk.touch(many - 1, 0, 8));
                Due.answers("audit of the last", many - 1, desk::audit);
                Due.works("touch the first", () -> desk.touch(first, 1, 8));
                Due.answers("audit of the first", first, desk::audit);
            }
        }
    }

    private static void theLinkBeforeThem() {
        Due.sentence("and the link before them");
        AccessDesk desk = deskWithRequests(40);
        for (int k = 40; k < 130; k++) {
            desk.request(k % 6, k % 160, k % 24, k);
            int first = k - 39;
            Due.answers("audit", -1, desk::audit);
            desk.touch(first, 3, 1);
            Due.answers("the first kept one touched", first, desk::audit);
            desk.touch(first, 3, 1);
        }
    }

    private static void theTouchedLinkBeforeThem() {
        Due.sentence("and the link before them");
        AccessDesk desk = deskWithRequests(40);
        desk.touch(0, 5, 1);
        Due.answers("the oldest one touched", 0, desk::audit);
        desk.request(0, 0, 0, 0);
        Due.answers("it is gone, its link is not", -1, desk::audit);
        desk.touch(1, 0, -1);
        desk.touch(2, 0, -1);
        desk.request(0, 0, 0, 0);
        Due.answers("the next one touched", 2, desk::audit);
        desk.request(0, 0, 0, 0);
        Due.answers("gone too", -1, desk::audit);
    }

    private static void linksFollowLinks() {
        Due.sentence("h is the link before");
        AccessDesk desk = deskWithRequests(3);
        int before = desk.entry(2, 6);
        desk.touch(2, 4, 255);
        desk.request(3, 3, 3, 3);
        Due.answers("behind a touched entry", linkOf(before, 3), () -> desk.entry(3, 6));
        Due.answers("audit", 2, desk::audit);
        desk.touch(2, 4, 255);
        Due.answers("turned back", -1, desk::audit);
    }
}
