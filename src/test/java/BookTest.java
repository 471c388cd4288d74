/** Promises 19 to 21: entry, touch, audit. */
public final class BookTest {
    private static final int FIRST_LINK = 1469598103;

    public static void main(String[] args) {
        entries();
        entryIsRefused();
        links();
        latestForty();
        touchTurnsBits();
        touchIsRefused();
        auditFindsTheFirst();
        auditForgetsWhatIsGone();
        Due.end();
    }

    private static AccessDesk deskWithRequests(int many) {
        AccessDesk desk = new AccessDesk();
        desk.open(0, 0);
        desk.open(3, 1);
        Due.load(desk, "F{p[u=1]+03;d[a=2]+1;p[h<6]+6;p?L=1;}");
        for (int k = 0; k < many; k++) {
            ask(desk, k);
        }
        return desk;
    }

    private static void ask(AccessDesk desk, int k) {
        Due.outcome((Runnable) () -> desk.request(k % 2 == 0 ? 0 : 3, k * 7 % 160, k % 24, k));
    }

    private static int[] dueNumbers(int k) {
        int action = k * 7 % 160 / 16;
        int object = k * 7 % 160 % 16;
        if (k % 2 == 1) {
            return new int[] {3, action, object, 1, 9, 1};
        }
        if (action == 2) {
            return new int[] {0, action, object, 2, 2, 0};
        }
        if (k % 24 < 6) {
            return new int[] {0, action, object, 1, 64, 0};
        }
        return new int[] {0, action, object, 3, 0, 0};
    }

    private static int dueLink(int before, int[] numbers, int k) {
        long link = before;
        for (int number : numbers) {
            link = (int) ((link ^ number) * 16777619L);
        }
        return (int) ((link ^ k) * 16777619L);
    }

    private static void entries() {
        AccessDesk desk = deskWithRequests(30);
        Due.answers("how many", 30, () -> desk.entry(-1, 0));
        Due.answers("how many, what 6", 30, () -> desk.entry(-1, 6));
        for (int k = 0; k < 30; k++) {
            int[] due = dueNumbers(k);
            for (int what = 0; what < 6; what++) {
                int entry = k;
                int asked = what;
                Due.answers("entry " + k + ", " + what, due[what], () -> desk.entry(entry, asked));
            }
        }
    }

    private static void entryIsRefused() {
        AccessDesk desk = deskWithRequests(2);
        Due.refuses("what -1", Due.ARGUMENT, () -> desk.entry(0, -1));
        Due.refuses("what 7", Due.ARGUMENT, () -> desk.entry(0, 7));
        Due.refuses("how many, what 7", Due.ARGUMENT, () -> desk.entry(-1, 7));
        Due.refuses("how many, what -1", Due.ARGUMENT, () -> desk.entry(-1, -1));
        Due.refuses("entry 2", Due.INDEX, () -> desk.entry(2, 0));
        Due.refuses("entry -2", Due.INDEX, () -> desk.entry(-2, 0));
        Due.refuses("the least entry", Due.INDEX, () -> desk.entry(Integer.MIN_VALUE, 0));
        Due.refuses("the largest entry", Due.INDEX, () -> desk.entry(Integer.MAX_VALUE, 0));
        Due.refuses("no entry, no what", Due.ARGUMENT, () -> desk.entry(2, 7));
        AccessDesk empty = new AccessDesk();
        Due.answers("how many at first", 0, () -> empty.entry(-1, 3));
        Due.refuses("entry 0 at first", Due.INDEX, () -> empty.entry(0, 0));
    }

    private static void links() {
        AccessDesk desk = new AccessDesk();
        desk.open(0, 0);
        desk.open(3, 1);
        Due.load(desk, "F{p[u=1]+03;d[a=2]+1;p[h<6]+6;p?L=1;}");
        int link = FIRST_LINK;
        for (int k = 0; k < 100; k++) {
            int entry = k;
            ask(desk, k);
            link = dueLink(link, dueNumbers(k), k);
            Due.answers("link " + k, link, () -> desk.entry(entry, 6));
            Due.answers("audit", -1, desk::audit);
        }
    }

    private static void latestForty() {
        AccessDesk forty = deskWithRequests(40);
        Due.answers("the first of 40", 0, () -> forty.entry(0, 0));
        ask(forty, 40);
        Due.refuses("the first of 41", Due.INDEX, () -> forty.entry(0, 0));
        Due.answers("the second of 41", 3, () -> forty.entry(1, 0));
        AccessDesk desk = deskWithRequests(123);
        Due.answers("how many", 123, () -> desk.entry(-1, 0));
        Due.refuses("one before the kept ones", Due.INDEX, () -> desk.entry(82, 0));
        Due.refuses("one behind them", Due.INDEX, () -> desk.entry(123, 0));
        for (int k = 83; k < 123; k++) {
            int entry = k;
            Due.answers("action of " + k, dueNumbers(k)[1], () -> desk.entry(entry, 1));
        }
        Due.answers("audit", -1, desk::audit);
    }

    private static void touchTurnsBits() {
        AccessDesk desk = deskWithRequests(50);
        for (int what = 0; what < 6; what++) {
            int asked = what;
            int before = desk.entry(20, what);
            Due.works("touch " + what, () -> desk.touch(20, asked, 0x80000005));
            Due.answers("turned", before ^ 0x80000005, () -> desk.entry(20, asked));
            Due.answers("audit", 20, desk::audit);
            desk.touch(20, what, 0x80000005);
            Due.answers("turned back", before, () -> desk.entry(20, asked));
            Due.answers("audit", -1, desk::audit);
        }
        int link = desk.entry(20, 6);
        desk.touch(20, 0, 1);
        Due.answers("the link stays", link, () -> desk.entry(20, 6));
        desk.touch(21, 0, 0);
        Due.answers("no bits", 20, desk::audit);
    }

    private static void touchIsRefused() {
        AccessDesk desk = deskWithRequests(41);
        Due.fails("what -1", Due.ARGUMENT, () -> desk.touch(5, -1, 1));
        Due.fails("what 6", Due.ARGUMENT, () -> desk.touch(5, 6, 1));
        Due.fails("entry -1", Due.INDEX, () -> desk.touch(-1, 0, 1));
        Due.fails("entry 0 of 41", Due.INDEX, () -> desk.touch(0, 0, 1));
        Due.fails("entry 41 of 41", Due.INDEX, () -> desk.touch(41, 0, 1));
        Due.fails("no entry, no what", Due.ARGUMENT, () -> desk.touch(41, 6, 1));
        Due.answers("nothing changed", -1, desk::audit);
        Due.works("the first kept", () -> desk.touch(1, 5, 1));
        Due.answers("audit", 1, desk::audit);
        Due.works("the last kept", () -> desk.touch(40, 5, 1));
    }

    private static void auditFindsTheFirst() {
        AccessDesk desk = new AccessDesk();
        Due.answers("of an empty book", -1, desk::audit);
        AccessDesk full = deskWithRequests(45);
        for (int k = 44; k >= 5; k--) {
            full.touch(k, k % 6, 2);
            Due.answers("audit", k, full::audit);
        }
        for (int k = 5; k < 45; k++) {
            Due.answers("audit", k, full::audit);
            full.touch(k, k % 6, 2);
        }
        Due.answers("all turned back", -1, full::audit);
    }

    /** A link follows the links that are in the book, whatever was done to the numbers. */
    private static void auditForgetsWhatIsGone() {
        AccessDesk desk = deskWithRequests(40);
        int link = desk.entry(39, 6);
        desk.touch(0, 1, 1);
        desk.touch(39, 2, 4);
        ask(desk, 40);
        Due.answers("the touched one is gone", 39, desk::audit);
        Due.answers("the link that follows", dueLink(link, dueNumbers(40), 40), () -> desk.entry(40, 6));
        for (int k = 41; k < 80; k++) {
            ask(desk, k);
        }
        Due.answers("both are gone", -1, desk::audit);
    }
}
