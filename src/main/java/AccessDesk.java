/**
 * An access desk: roles with heirs, sessions that hold some of them within bounds on what may go
 * together, policies in a compact text that are combined as XACML 3.0 combines, objects that are
 * touched only on a permit whose duties can be fulfilled, and a chained book of all decisions.
 *
 * <p>All rows are made by the constructors and used again: no call but a throwing one makes an
 * object.
 */
public final class AccessDesk {
    private static final int USERS = 8;
    private static final int ROLES = 12;
    private static final int SESSIONS = 6;
    private static final int OBJECTS = 16;
    private static final int CLASSES = 10;
    private static final int ACTIONS = 10;
    private static final int HOURS = 24;

    private static final int NOT_APPLICABLE = 0;
    private static final int PERMIT = 1;
    private static final int DENY = 2;
    /** An indeterminate permit is PERMIT + UNSURE_BY, an indeterminate deny DENY + UNSURE_BY. */
    private static final int UNSURE_BY = 2;
    private static final int UNSURE_BOTH = 5;
    /** A verdict is a decision's value, and this many times the set of its duties. */
    private static final int DUTIES_AT = 10;

    /** In this order, "and" is the smaller one, "or" the larger one, "not" TRUE less it. */
    private static final int FALSE = 0;
    private static final int UNSURE = 1;
    private static final int TRUE = 2;

    private static final int RIGHT = -1;

    private final Hierarchy hierarchy;
    private final Users users;
    private final Sessions sessions;
    private final Bounds bounds;
    private final Things things;
    private final Reader reader;
    private final Judge judge;
    private final Book book;
    private int wrongAt;

    public AccessDesk() {
        hierarchy = new Hierarchy();
        users = new Users();
        sessions = new Sessions();
        bounds = new Bounds();
        things = new Things();
        reader = new Reader();
        judge = new Judge();
        book = new Book();
        wrongAt = RIGHT;
    }

    public void senior(int role, int other) throws IllegalArgumentException, IllegalStateException {
        demandArgument(isRole(role) && isRole(other) && role != other);
        demandState(!hierarchy.isJoined(role, other) && !hierarchy.leads(other, role));
        hierarchy.join(role, other);
        if (isAnyBoundBroken()) {
            hierarchy.part(role, other);
            throw new IllegalStateException("a bound would be broken");
        }
    }

    public void unsenior(int role, int other) throws IllegalArgumentException, IllegalStateException {
        demandArgument(isRole(role) && isRole(other));
        demandState(hierarchy.isJoined(role, other));
        hierarchy.part(role, other);
        dropLostRoles();
    }

    public void assign(int user, int role) throws IllegalArgumentException, IllegalStateException {
        demandArgument(isUser(user) && isRole(role));
        demandState(!users.isGiven(user, role));
        users.give(user, role);
        if (isAnyBoundBroken()) {
            users.take(user, role);
            throw new IllegalStateException("a bound would be broken");
        }
    }

    public void withdraw(int user, int role) throws IllegalArgumentException, IllegalStateException {
        demandArgument(isUser(user) && isRole(role));
        demandState(users.isGiven(user, role));
        users.take(user, role);
        dropLostRoles();
    }

    public int bound(boolean dynamic, int roles, int n)
            throws IllegalArgumentException, IllegalStateException {
        demandArgument(Bounds.isBound(roles, n));
        demandState(!bounds.isFull() && !isBroken(dynamic, roles, n));
        return bounds.add(dynamic, roles, n);
    }

    public void rank(int user, int rank, boolean none) throws IllegalArgumentException {
        demandArgument(isUser(user));
        users.setRank(user, rank, !none);
    }

    public void open(int session, int user) throws IllegalArgumentException, IllegalStateException {
        demandArgument(isSession(session) && isUser(user));
        demandState(!sessions.isOpen(session));
        sessions.start(session, user);
    }

    public void close(int session) throws IllegalArgumentException, IllegalStateException {
        demandArgument(isSession(session));
        demandState(sessions.isOpen(session));
        sessions.end(session);
    }

    public void activate(int session, int role, boolean on)
            throws IllegalArgumentException, IllegalStateException {
        demandArgument(isSession(session) && isRole(role));
        demandState(sessions.isOpen(session) && sessions.isActive(session, role) != on);
        if (on) {
            turnOn(session, role);
        } else {
            sessions.turnOff(session, role);
        }
    }

    public int holds(int session) throws IllegalArgumentException {
        demandArgument(isSession(session));
        return sessions.isOpen(session) ? rolesOfSession(session) : -1;
    }

    public int authorized(int user) throws IllegalArgumentException {
        demandArgument(isUser(user));
        return rolesOfUser(user);
    }

    public void object(int object, int klass, int level, boolean none) throws IllegalArgumentException {
        demandArgument(isObject(object) && isBelow(klass, CLASSES));
        things.describe(object, klass, level, !none);
    }

    public int feed(long bytes, int n) throws IllegalArgumentException, IllegalStateException {
        demandArgument(n >= 1 && n <= Tape.MOST_AT_ONCE);
        demandState(reader.tape.hasRoomFor(n));
        return reader.tape.append(bytes, n);
    }

    public int policy() throws IllegalArgumentException {
        wrongAt = reader.read();
        demandArgument(wrongAt == RIGHT);
        judge.plan = reader.exchange(judge.plan);
        return judge.plan.nodes;
    }

    public int place() {
        return wrongAt;
    }

    public int decide(int session, int action, int object, int hour)
            throws IllegalArgumentException, IllegalStateException {
        demandArgument(isSession(session) && isBelow(action, ACTIONS));
        demandArgument(isObject(object) && isBelow(hour, HOURS));
        demandState(sessions.isOpen(session));
        return verdict(session, action, object, hour);
    }

    public int request(int session, int target, int hour, int value)
            throws IllegalArgumentException, IllegalStateException, UnsupportedOperationException {
        demandArgument(isSession(session) && isBelow(target, ACTIONS * OBJECTS) && isBelow(hour, HOURS));
        demandState(sessions.isOpen(session));
        int action = target / OBJECTS;
        int object = target % OBJECTS;
        int verdict = verdict(session, action, object, hour);
        int decision = verdict % DUTIES_AT;
        int duties = verdict / DUTIES_AT;
        boolean done = decision == PERMIT && sessions.fulfil(session, duties, hour);
        book.write(session, action, object, decision, duties, done ? 1 : 0);
        if (!done) {
            throw new UnsupportedOperationException("not carried out");
        }
        return things.perform(action, object, value);
    }

    public int entry(int k, int what) throws IllegalArgumentException, IndexOutOfBoundsException {
        demandArgument(isBelow(what, Book.WIDTH));
        if (k == -1) {
            return book.written;
        }
        demandKept(k);
        return book.numberOf(k, what);
    }

    public void touch(int k, int what, int bits) throws IllegalArgumentException, IndexOutOfBoundsException {
        demandArgument(isBelow(what, Book.LINK));
        demandKept(k);
        book.turn(k, what, bits);
    }

    public int audit() {
        return book.firstWrong();
    }

    private static void demandArgument(boolean right) {
        if (!right) {
            throw new IllegalArgumentException();
        }
    }

    private static void demandState(boolean right) {
        if (!right) {
            throw new IllegalStateException();
        }
    }

    private void demandKept(int k) {
        if (!book.isKept(k)) {
            throw new IndexOutOfBoundsException();
        }
    }

    private static boolean isUser(int user) {
        return isBelow(user, USERS);
    }

    private static boolean isRole(int role) {
        return isBelow(role, ROLES);
    }

    private static boolean isSession(int session) {
        return isBelow(session, SESSIONS);
    }

    private static boolean isObject(int object) {
        return isBelow(object, OBJECTS);
    }

    private static boolean isBelow(int number, int bound) {
        return number >= 0 && number < bound;
    }

    private static boolean has(int set, int member) {
        return (set >> member & 1) == 1;
    }

    private int rolesOfUser(int user) {
        return hierarchy.withJuniors(users.given[user]);
    }

    private int rolesOfSession(int session) {
        return hierarchy.withJuniors(sessions.active[session]);
    }

    private void turnOn(int session, int role) {
        demandState(has(rolesOfUser(sessions.owner[session]), role));
        sessions.turnOn(session, role);
        if (isAnyBoundBroken()) {
            sessions.turnOff(session, role);
            throw new IllegalStateException("a bound would be broken");
        }
    }

    private void dropLostRoles() {
        for (int session = 0; session < SESSIONS; session++) {
            if (sessions.isOpen(session)) {
                sessions.active[session] &= rolesOfUser(sessions.owner[session]);
            }
        }
    }

    private boolean isAnyBoundBroken() {
        for (int k = 0; k < bounds.size; k++) {
            if (isBroken(bounds.dynamic[k], bounds.roles[k], bounds.limit[k])) {
                return true;
            }
        }
        return false;
    }

    private boolean isBroken(boolean dynamic, int roles, int n) {
        return dynamic ? isBrokenBySession(roles, n) : isBrokenByUser(roles, n);
    }

    private boolean isBrokenByUser(int roles, int n) {
        for (int user = 0; user < USERS; user++) {
            if (Integer.bitCount(rolesOfUser(user) & roles) >= n) {
                return true;
            }
        }
        return false;
    }

    private boolean isBrokenBySession(int roles, int n) {
        for (int session = 0; session < SESSIONS; session++) {
            if (Integer.bitCount(rolesOfSession(session) & roles) >= n) {
                return true;
            }
        }
        return false;
    }

    private int verdict(int session, int action, int object, int hour) {
        int user = sessions.owner[session];
        judge.facts.setRequest(action, hour);
        judge.facts.setThing(things.klass[object], things.level[object], things.levelled[object]);
        judge.facts.setAsker(user, users.rank[user], users.ranked[user], rolesOfSession(session));
        return judge.weigh();
    }

    /** Which role is senior to which. The desk lets no circle come into it. */
    private static final class Hierarchy {
        private final int[] juniors;

        Hierarchy() {
            juniors = new int[ROLES];
        }

        boolean isJoined(int role, int other) {
            return has(juniors[role], other);
        }

        boolean leads(int role, int other) {
            return has(withJuniors(1 << role), other);
        }

        void join(int role, int other) {
            juniors[role] |= 1 << other;
        }

        void part(int role, int other) {
            juniors[role] &= ~(1 << other);
        }

        int withJuniors(int set) {
            int all = set;
            // Without circles no way has more steps than this.
            for (int step = 1; step < ROLES; step++) {
                int known = all;
                for (int role = 0; role < ROLES; role++) {
                    if (has(known, role)) {
                        all |= juniors[role];
                    }
                }
                if (all == known) {
                    break;
                }
            }
            return all;
        }
    }

    private static final class Users {
        final int[] given;
        final int[] rank;
        final boolean[] ranked;

        Users() {
            given = new int[USERS];
            rank = new int[USERS];
            ranked = new boolean[USERS];
        }

        boolean isGiven(int user, int role) {
            return has(given[user], role);
        }

        void give(int user, int role) {
            given[user] |= 1 << role;
        }

        void take(int user, int role) {
            given[user] &= ~(1 << role);
        }

        void setRank(int user, int newRank, boolean isThere) {
            rank[user] = newRank;
            ranked[user] = isThere;
        }
    }

    private static final class Sessions {
        private static final int NOBODY = -1;
        private static final int COUNTED_DUTY = 4;
        private static final int MOST_COUNTED = 3;
        private static final int DAYTIME_DUTY = 5;
        private static final int FIRST_DAYTIME_HOUR = 8;
        private static final int LAST_DAYTIME_HOUR = 17;
        private static final int FIRST_UNKNOWN_DUTY = 6;

        final int[] owner;
        /** Empty in a closed session, so that it breaks no bound. */
        final int[] active;
        private final int[] count;

        Sessions() {
            owner = new int[SESSIONS];
            active = new int[SESSIONS];
            count = new int[SESSIONS];
            for (int session = 0; session < SESSIONS; session++) {
                owner[session] = NOBODY;
            }
        }

        boolean isOpen(int session) {
            return owner[session] != NOBODY;
        }

        void start(int session, int user) {
            owner[session] = user;
            count[session] = 0;
        }

        void end(int session) {
            owner[session] = NOBODY;
            active[session] = 0;
        }

        boolean isActive(int session, int role) {
            return has(active[session], role);
        }

        void turnOn(int session, int role) {
            active[session] |= 1 << role;
        }

        void turnOff(int session, int role) {
            active[session] &= ~(1 << role);
        }

        /** All duties or none: nothing is counted unless each of them can be fulfilled. */
        boolean fulfil(int session, int duties, int hour) {
            boolean counted = has(duties, COUNTED_DUTY);
            if (duties >> FIRST_UNKNOWN_DUTY != 0
                    || has(duties, DAYTIME_DUTY) && !isDaytime(hour)
                    || counted && count[session] >= MOST_COUNTED) {
                return false;
            }
            if (counted) {
                count[session]++;
            }
            return true;
        }

        private static boolean isDaytime(int hour) {
            return hour >= FIRST_DAYTIME_HOUR && hour <= LAST_DAYTIME_HOUR;
        }
    }

    private static final class Bounds {
        private static final int MOST = 6;
        private static final int LEAST_LIMIT = 2;
        private static final int MOST_LIMIT = 6;

        final boolean[] dynamic;
        final int[] roles;
        final int[] limit;
        int size;

        Bounds() {
            dynamic = new boolean[MOST];
            roles = new int[MOST];
            limit = new int[MOST];
            size = 0;
        }

        static boolean isBound(int set, int n) {
            return isBelow(set, 1 << ROLES)
                    && n >= LEAST_LIMIT && n <= MOST_LIMIT
                    && Integer.bitCount(set) >= n;
        }

        boolean isFull() {
            return size >= MOST;
        }

        int add(boolean isDynamic, int set, int n) {
            int number = size;
            dynamic[number] = isDynamic;
            roles[number] = set;
            limit[number] = n;
            size++;
            return number;
        }
    }

    /** The objects that requests are about. */
    private static final class Things {
        private static final int PUT = 1;
        private static final int ADD = 2;

        final int[] klass;
        final int[] level;
        final boolean[] levelled;
        private final int[] value;

        Things() {
            klass = new int[OBJECTS];
            level = new int[OBJECTS];
            levelled = new boolean[OBJECTS];
            value = new int[OBJECTS];
        }

        void describe(int thing, int newKlass, int newLevel, boolean hasLevel) {
            klass[thing] = newKlass;
            level[thing] = newLevel;
            levelled[thing] = hasLevel;
        }

        int perform(int action, int thing, int operand) {
            if (action == PUT) {
                value[thing] = operand;
            } else if (action == ADD) {
                value[thing] += operand;
            }
            return value[thing];
        }
    }

    /** The text that is being fed. */
    private static final class Tape {
        static final int MOST = 300;
        static final int MOST_AT_ONCE = 8;
        private static final int BITS_OF_BYTE = 8;

        final int[] bytes;
        int length;

        Tape() {
            bytes = new int[MOST];
            length = 0;
        }

        boolean hasRoomFor(int n) {
            return length + n <= MOST;
        }

        int append(long packed, int n) {
            for (int k = n - 1; k >= 0; k--) {
                bytes[length] = (int) (packed >>> BITS_OF_BYTE * k & 0xFF);
                length++;
            }
            return length;
        }

        void clear() {
            length = 0;
        }
    }

    /**
     * A policy that has been read: its nodes, each behind the policy that it is in, and the steps
     * of their targets and conditions. A step is a match (a letter, a sign and a number) or, as a
     * letter alone, what joins matches: behind each match of a target the byte that follows it
     * there, and in a condition an operator behind its operands.
     */
    private static final class Plan {
        static final int MOST_NODES = 40;
        static final int NO_PARENT = -1;

        final int[] kind;
        final int[] parent;
        final int[] permitDuties;
        final int[] denyDuties;
        final int[] targetFrom;
        final int[] conditionFrom;
        final int[] conditionTo;
        int nodes;

        final int[] letter;
        final int[] sign;
        final int[] number;
        int steps;

        Plan() {
            kind = new int[MOST_NODES];
            parent = new int[MOST_NODES];
            permitDuties = new int[MOST_NODES];
            denyDuties = new int[MOST_NODES];
            targetFrom = new int[MOST_NODES];
            conditionFrom = new int[MOST_NODES];
            conditionTo = new int[MOST_NODES];
            nodes = 0;
            // Each step has at least one byte of the text for itself.
            letter = new int[Tape.MOST];
            sign = new int[Tape.MOST];
            number = new int[Tape.MOST];
            steps = 0;
        }

        void clear() {
            nodes = 0;
            steps = 0;
        }

        boolean isFull() {
            return nodes >= MOST_NODES;
        }

        int addNode(int newKind, int newParent) {
            int node = nodes;
            kind[node] = newKind;
            parent[node] = newParent;
            targetFrom[node] = steps;
            nodes++;
            return node;
        }

        void addStep(int newLetter, int newSign, int newNumber) {
            if (steps < Tape.MOST) {
                letter[steps] = newLetter;
                sign[steps] = newSign;
                number[steps] = newNumber;
                steps++;
            }
        }

        int dutiesOf(int node, int value) {
            if (value == PERMIT) {
                return permitDuties[node];
            }
            return value == DENY ? denyDuties[node] : 0;
        }
    }

    /**
     * The tape, and how it is read into a plan. Each reading method answers whether the text can
     * still be right; if not, the reader has stopped at the byte that is wrong.
     */
    private static final class Reader {
        private static final int END = -1;
        private static final int MOST_WITHIN = 5;
        private static final int MOST_BRACKETS = 6;
        private static final int MOST_DIGITS = 3;
        private static final int DUTIES = 8;

        final Tape tape;
        /** Not the plan that is in force: that one stays when the text is wrong. */
        private Plan plan;
        private int at;
        private int next;
        private int digits;

        Reader() {
            tape = new Tape();
            plan = new Plan();
            at = 0;
            next = END;
            digits = 0;
        }

        /** Uses the tape up: RIGHT, or where it was wrong. */
        int read() {
            plan.clear();
            moveTo(0);
            boolean right = readNode(Plan.NO_PARENT, 0) && next == END;
            tape.clear();
            return right ? RIGHT : at;
        }

        /** Gives the plan that was read for one to read the next text into. */
        Plan exchange(Plan former) {
            Plan read = plan;
            plan = former;
            return read;
        }

        private void moveTo(int place) {
            at = place;
            next = place < tape.length ? tape.bytes[place] : END;
        }

        private boolean skip(int expected) {
            if (next != expected) {
                return false;
            }
            moveTo(at + 1);
            return true;
        }

        private boolean readNode(int parent, int within) {
            if (plan.isFull()) {
                return false;
            }
            if (next == 'p' || next == 'd') {
                boolean isWelcome = parent == Plan.NO_PARENT || plan.kind[parent] != 'O';
                return isWelcome && readRule(parent);
            }
            return isCombining(next) && within < MOST_WITHIN && readPolicy(parent, within + 1);
        }

        private static boolean isCombining(int sign) {
            switch (sign) {
                case 'D':
                case 'P':
                case 'F':
                case 'X':
                case 'Y':
                case 'O':
                    return true;
                default:
                    return false;
            }
        }

        private boolean readRule(int parent) {
            int rule = plan.addNode(next, parent);
            moveTo(at + 1);
            if (!readTarget(rule)) {
                return false;
            }
            if (skip('?') && !readExpression(0)) {
                return false;
            }
            plan.conditionTo[rule] = plan.steps;
            if (!readDuties('+')) {
                return false;
            }
            // A rule has no other value than its effect that duties could be of.
            plan.permitDuties[rule] = digits;
            plan.denyDuties[rule] = digits;
            return skip(';');
        }

        private boolean readPolicy(int parent, int within) {
            int policy = plan.addNode(next, parent);
            moveTo(at + 1);
            if (!readTarget(policy) || !skip('{') || !readNodes(policy, within)) {
                return false;
            }
            if (!readDuties('+')) {
                return false;
            }
            plan.permitDuties[policy] = digits;
            if (!readDuties('-')) {
                return false;
            }
            plan.denyDuties[policy] = digits;
            return true;
        }

        private boolean readNodes(int policy, int within) {
            for (int k = 0; k < Plan.MOST_NODES; k++) {
                if (!readNode(policy, within)) {
                    return false;
                }
                if (skip('}')) {
                    return true;
                }
            }
            return false;
        }

        /** Perhaps duties behind a sign: their set, empty without them, is then in digits. */
        private boolean readDuties(int sign) {
            digits = 0;
            if (!skip(sign)) {
                return true;
            }
            for (int k = 0; k < DUTIES && isBelow(next - '0', DUTIES); k++) {
                if (has(digits, next - '0')) {
                    return false;
                }
                digits |= 1 << next - '0';
                moveTo(at + 1);
            }
            return digits != 0;
        }

        private boolean readTarget(int node) {
            boolean isGoingOn = next == '[';
            for (int k = 0; k < Tape.MOST && isGoingOn; k++) {
                moveTo(at + 1);
                if (!readMatch() || !isBehindMatch(next)) {
                    return false;
                }
                plan.addStep(next, 0, 0);
                isGoingOn = !skip(']');
            }
            plan.conditionFrom[node] = plan.steps;
            return true;
        }

        private static boolean isBehindMatch(int sign) {
            return sign == ',' || sign == '|' || sign == '&' || sign == ']';
        }

        private boolean readExpression(int brackets) {
            boolean isDenied = false;
            // Taken two by two, as the denial of a denial is the expression itself.
            for (int k = 0; k < Tape.MOST && skip('!'); k++) {
                isDenied = !isDenied;
            }
            boolean right = next == '(' ? readBracket(brackets + 1) : readMatch();
            if (right && isDenied) {
                plan.addStep('!', 0, 0);
            }
            return right;
        }

        private boolean readBracket(int brackets) {
            if (brackets > MOST_BRACKETS) {
                return false;
            }
            moveTo(at + 1);
            if (!readExpression(brackets)) {
                return false;
            }
            int operator = next;
            if (!skip('&') && !skip('|')) {
                return false;
            }
            if (!readExpression(brackets) || !skip(')')) {
                return false;
            }
            plan.addStep(operator, 0, 0);
            return true;
        }

        private boolean readMatch() {
            int letter = next;
            if (!isAttribute(letter)) {
                return false;
            }
            moveTo(at + 1);
            int sign = next;
            boolean isOrdered = letter != 'r' && letter != 'u';
            if (sign != '=' && !(isOrdered && (sign == '<' || sign == '>'))) {
                return false;
            }
            moveTo(at + 1);
            if (!isDigit(next)) {
                return false;
            }
            plan.addStep(letter, sign, readNumber());
            return true;
        }

        private static boolean isAttribute(int letter) {
            switch (letter) {
                case 'a':
                case 'c':
                case 'l':
                case 'L':
                case 'h':
                case 'u':
                case 's':
                case 'S':
                case 'r':
                    return true;
                default:
                    return false;
            }
        }

        private static boolean isDigit(int sign) {
            return sign >= '0' && sign <= '9';
        }

        /** Stops behind a 0 in front, so that a digit there is found to be wrong. */
        private int readNumber() {
            int most = next == '0' ? 1 : MOST_DIGITS;
            int number = 0;
            for (int k = 0; k < most && isDigit(next); k++) {
                number = 10 * number + next - '0';
                moveTo(at + 1);
            }
            return number;
        }
    }

    /** The attributes of the request that is being decided. */
    private static final class Facts {
        private int action;
        private int hour;
        private int klass;
        private int level;
        private boolean hasLevel;
        private int user;
        private int rank;
        private boolean hasRank;
        private int roles;

        void setRequest(int newAction, int newHour) {
            action = newAction;
            hour = newHour;
        }

        void setThing(int newKlass, int newLevel, boolean isLevelled) {
            klass = newKlass;
            level = newLevel;
            hasLevel = isLevelled;
        }

        void setAsker(int newUser, int newRank, boolean isRanked, int newRoles) {
            user = newUser;
            rank = newRank;
            hasRank = isRanked;
            roles = newRoles;
        }

        int match(int letter, int sign, int number) {
            switch (letter) {
                case 'a':
                    return compared(action, sign, number);
                case 'c':
                    return compared(klass, sign, number);
                case 'h':
                    return compared(hour, sign, number);
                case 'u':
                    return compared(user, sign, number);
                case 'r':
                    return number < ROLES && has(roles, number) ? TRUE : FALSE;
                case 'l':
                    return hasLevel ? compared(level, sign, number) : FALSE;
                case 'L':
                    return hasLevel ? compared(level, sign, number) : UNSURE;
                case 's':
                    return hasRank ? compared(rank, sign, number) : FALSE;
                case 'S':
                    return hasRank ? compared(rank, sign, number) : UNSURE;
                default:
                    return FALSE;
            }
        }

        private static int compared(int attribute, int sign, int number) {
            boolean isTrue = sign == '=' && attribute == number
                    || sign == '<' && attribute < number
                    || sign == '>' && attribute > number;
            return isTrue ? TRUE : FALSE;
        }
    }

    /** Decides by a plan, from its last node to its first, so that a policy's nodes come before it. */
    private static final class Judge {
        private static final int NO_NODE = -1;

        final Facts facts;
        Plan plan;
        private final int[] target;
        private final int[] value;
        private final int[] duties;
        private final int[] stack;

        Judge() {
            facts = new Facts();
            plan = new Plan();
            target = new int[Plan.MOST_NODES];
            value = new int[Plan.MOST_NODES];
            duties = new int[Plan.MOST_NODES];
            // A left operand waits in each open bracket while the innermost right one is found.
            stack = new int[Reader.MOST_BRACKETS + 1];
        }

        int weigh() {
            if (plan.nodes == 0) {
                return NOT_APPLICABLE;
            }
            for (int node = plan.nodes - 1; node >= 0; node--) {
                target[node] = targetOf(node);
                if (plan.kind[node] == 'p' || plan.kind[node] == 'd') {
                    weighRule(node, conditionOf(node));
                } else {
                    weighPolicy(node);
                }
            }
            return value[0] + DUTIES_AT * duties[0];
        }

        private int targetOf(int node) {
            int whole = TRUE;
            int any = FALSE;
            int all = TRUE;
            for (int step = plan.targetFrom[node]; step < plan.conditionFrom[node]; step++) {
                switch (plan.letter[step]) {
                    case ',':
                        break;
                    case '|':
                        any = Math.max(any, all);
                        all = TRUE;
                        break;
                    case '&':
                    case ']':
                        whole = Math.min(whole, Math.max(any, all));
                        any = FALSE;
                        all = TRUE;
                        break;
                    default:
                        all = Math.min(all, matchAt(step));
                        break;
                }
            }
            return whole;
        }

        private int matchAt(int step) {
            return facts.match(plan.letter[step], plan.sign[step], plan.number[step]);
        }

        private int conditionOf(int node) {
            int height = 0;
            for (int step = plan.conditionFrom[node]; step < plan.conditionTo[node]; step++) {
                height = takeStep(step, height);
            }
            return height == 0 ? TRUE : stack[0];
        }

        private int takeStep(int step, int height) {
            int letter = plan.letter[step];
            if (letter == '!' && height >= 1) {
                stack[height - 1] = TRUE - stack[height - 1];
                return height;
            }
            if ((letter == '&' || letter == '|') && height >= 2) {
                int left = stack[height - 2];
                int right = stack[height - 1];
                stack[height - 2] = letter == '&' ? Math.min(left, right) : Math.max(left, right);
                return height - 1;
            }
            if (height >= stack.length) {
                return height;
            }
            stack[height] = matchAt(step);
            return height + 1;
        }

        private void weighRule(int rule, int condition) {
            int effect = plan.kind[rule] == 'p' ? PERMIT : DENY;
            if (target[rule] == FALSE || target[rule] == TRUE && condition == FALSE) {
                value[rule] = NOT_APPLICABLE;
            } else if (target[rule] == TRUE && condition == TRUE) {
                value[rule] = effect;
            } else {
                value[rule] = effect + UNSURE_BY;
            }
            duties[rule] = plan.dutiesOf(rule, value[rule]);
        }

        private void weighPolicy(int policy) {
            value[policy] = NOT_APPLICABLE;
            duties[policy] = 0;
            if (target[policy] == FALSE) {
                return;
            }
            combine(policy);
            boolean isDecided = value[policy] == PERMIT || value[policy] == DENY;
            if (isDecided && target[policy] == UNSURE) {
                value[policy] += UNSURE_BY;
                duties[policy] = 0;
            } else if (isDecided) {
                duties[policy] |= plan.dutiesOf(policy, value[policy]);
            }
        }

        private void combine(int policy) {
            switch (plan.kind[policy]) {
                case 'D':
                    combineAll(policy, overriding(DENY, PERMIT, seenIn(policy)));
                    break;
                case 'P':
                    combineAll(policy, overriding(PERMIT, DENY, seenIn(policy)));
                    break;
                case 'X':
                    combineAll(policy, has(seenIn(policy), PERMIT) ? PERMIT : DENY);
                    break;
                case 'Y':
                    combineAll(policy, has(seenIn(policy), DENY) ? DENY : PERMIT);
                    break;
                case 'F':
                    takeOver(policy, firstApplicable(policy));
                    break;
                default:
                    combineOnlyOne(policy);
                    break;
            }
        }

        /** The values of a policy's nodes, as a set. */
        private int seenIn(int policy) {
            int seen = 0;
            for (int node = policy + 1; node < plan.nodes; node++) {
                if (plan.parent[node] == policy) {
                    seen |= 1 << value[node];
                }
            }
            return seen;
        }

        private static int overriding(int strong, int weak, int seen) {
            int unsureStrong = strong + UNSURE_BY;
            int unsureWeak = weak + UNSURE_BY;
            if (has(seen, strong)) {
                return strong;
            }
            boolean isWeakSeen = has(seen, weak) || has(seen, unsureWeak);
            if (has(seen, UNSURE_BOTH) || has(seen, unsureStrong) && isWeakSeen) {
                return UNSURE_BOTH;
            }
            if (has(seen, unsureStrong)) {
                return unsureStrong;
            }
            if (has(seen, weak)) {
                return weak;
            }
            return has(seen, unsureWeak) ? unsureWeak : NOT_APPLICABLE;
        }

        private void combineAll(int policy, int combined) {
            value[policy] = combined;
            for (int node = policy + 1; node < plan.nodes; node++) {
                if (plan.parent[node] == policy && value[node] == combined) {
                    duties[policy] |= duties[node];
                }
            }
        }

        private int firstApplicable(int policy) {
            for (int node = policy + 1; node < plan.nodes; node++) {
                if (plan.parent[node] == policy && value[node] != NOT_APPLICABLE) {
                    return node;
                }
            }
            return NO_NODE;
        }

        private void combineOnlyOne(int policy) {
            int only = NO_NODE;
            for (int node = policy + 1; node < plan.nodes; node++) {
                if (plan.parent[node] == policy && target[node] != FALSE) {
                    if (target[node] == UNSURE || only != NO_NODE) {
                        value[policy] = UNSURE_BOTH;
                        return;
                    }
                    only = node;
                }
            }
            takeOver(policy, only);
        }

        private void takeOver(int policy, int node) {
            if (node != NO_NODE) {
                value[policy] = value[node];
                duties[policy] = duties[node];
            }
        }
    }

    /** The book of requests: the latest ones, in rows that are used in turn. */
    private static final class Book {
        static final int WIDTH = 7;
        static final int LINK = 6;
        private static final int KEPT = 40;
        private static final int FIRST_LINK = 1469598103;
        private static final int LINK_FACTOR = 16777619;

        private final int[] numbers;
        int written;
        private int linkBefore;
        private int latestLink;

        Book() {
            numbers = new int[KEPT * WIDTH];
            written = 0;
            linkBefore = FIRST_LINK;
            latestLink = FIRST_LINK;
        }

        boolean isKept(int k) {
            return k >= firstKept() && k < written;
        }

        int numberOf(int k, int what) {
            return numbers[rowOf(k) + what];
        }

        void turn(int k, int what, int bits) {
            numbers[rowOf(k) + what] ^= bits;
        }

        void write(int session, int action, int object, int decision, int duties, int done) {
            int row = rowOf(written);
            if (written >= KEPT) {
                linkBefore = numbers[row + LINK];
            }
            numbers[row] = session;
            numbers[row + 1] = action;
            numbers[row + 2] = object;
            numbers[row + 3] = decision;
            numbers[row + 4] = duties;
            numbers[row + 5] = done;
            latestLink = linkOf(written, latestLink);
            numbers[row + LINK] = latestLink;
            written++;
        }

        int firstWrong() {
            int link = linkBefore;
            for (int k = firstKept(); k < written; k++) {
                link = linkOf(k, link);
                if (link != numberOf(k, LINK)) {
                    return k;
                }
            }
            return -1;
        }

        private int firstKept() {
            return Math.max(0, written - KEPT);
        }

        private static int rowOf(int k) {
            return Math.floorMod(k, KEPT) * WIDTH;
        }

        private int linkOf(int k, int before) {
            int link = before;
            for (int what = 0; what < LINK; what++) {
                link = (link ^ numberOf(k, what)) * LINK_FACTOR;
            }
            return (link ^ k) * LINK_FACTOR;
        }
    }
}
