import java.util.ArrayDeque;
import java.util.ArrayList;
import java.util.Deque;
import java.util.HashMap;
import java.util.List;
import java.util.Map;
import java.util.Set;
import java.util.TreeSet;

/**
 * The document once more, written in another way than the program: sets in place of bits, a text
 * checked byte by byte against a stack of what may still come, and decided by walking the text.
 */
final class DeskModel {
    private record Bound(boolean dynamic, Set<Integer> roles, int n) {
    }

    private record Verdict(int value, Set<Integer> duties, int target) {
    }

    private final boolean[][] senior = new boolean[12][12];
    private final List<Set<Integer>> assigned = new ArrayList<>();
    private final Map<Integer, Integer> ranks = new HashMap<>();
    private final Map<Integer, Integer> owners = new HashMap<>();
    private final List<Set<Integer>> active = new ArrayList<>();
    private final int[] counts = new int[6];
    private final List<Bound> bounds = new ArrayList<>();
    private final int[] classes = new int[16];
    private final Map<Integer, Integer> levels = new HashMap<>();
    private final int[] values = new int[16];
    private final List<int[]> book = new ArrayList<>();
    private String tape = "";
    private String policy = "";
    private int place = -1;

    DeskModel() {
        for (int user = 0; user < 8; user++) {
            assigned.add(new TreeSet<>());
        }
        for (int session = 0; session < 6; session++) {
            active.add(new TreeSet<>());
        }
    }

    private static void argument(boolean right) {
        if (!right) {
            throw new IllegalArgumentException();
        }
    }

    private static void state(boolean right) {
        if (!right) {
            throw new IllegalStateException();
        }
    }

    private static boolean in(int x, int first, int last) {
        return x >= first && x <= last;
    }

    private static int bits(Set<Integer> set) {
        int bits = 0;
        for (int member : set) {
            bits += 1 << member;
        }
        return bits;
    }

    private static Set<Integer> set(int bits) {
        Set<Integer> set = new TreeSet<>();
        for (int k = 0; k < 12; k++) {
            if ((bits & 1 << k) != 0) {
                set.add(k);
            }
        }
        return set;
    }

    private boolean[][] ways() {
        boolean[][] way = new boolean[12][];
        for (int role = 0; role < 12; role++) {
            way[role] = senior[role].clone();
            way[role][role] = true;
        }
        for (int by = 0; by < 12; by++) {
            for (int from = 0; from < 12; from++) {
                for (int to = 0; to < 12; to++) {
                    way[from][to] |= way[from][by] && way[by][to];
                }
            }
        }
        return way;
    }

    private Set<Integer> spread(Set<Integer> roles) {
        boolean[][] way = ways();
        Set<Integer> all = new TreeSet<>();
        for (int from : roles) {
            for (int to = 0; to < 12; to++) {
                if (way[from][to]) {
                    all.add(to);
                }
            }
        }
        return all;
    }

    private boolean broken(Bound bound) {
        List<Set<Integer>> holders = new ArrayList<>();
        if (bound.dynamic) {
            for (int session : owners.keySet()) {
                holders.add(spread(active.get(session)));
            }
        } else {
            for (Set<Integer> roles : assigned) {
                holders.add(spread(roles));
            }
        }
        for (Set<Integer> held : holders) {
            held.retainAll(bound.roles);
            if (held.size() >= bound.n) {
                return true;
            }
        }
        return false;
    }

    private boolean broken() {
        return bounds.stream().anyMatch(this::broken);
    }

    private void drop() {
        for (Map.Entry<Integer, Integer> open : owners.entrySet()) {
            active.get(open.getKey()).retainAll(spread(assigned.get(open.getValue())));
        }
    }

    void senior(int role, int other) {
        argument(in(role, 0, 11) && in(other, 0, 11) && role != other);
        state(!senior[role][other] && !ways()[other][role]);
        senior[role][other] = true;
        boolean broken = broken();
        senior[role][other] = !broken;
        state(!broken);
    }

    void unsenior(int role, int other) {
        argument(in(role, 0, 11) && in(other, 0, 11));
        state(senior[role][other]);
        senior[role][other] = false;
        drop();
    }

    void assign(int user, int role) {
        argument(in(user, 0, 7) && in(role, 0, 11));
        state(assigned.get(user).add(role));
        if (broken()) {
            assigned.get(user).remove(role);
            state(false);
        }
    }

    void withdraw(int user, int role) {
        argument(in(user, 0, 7) && in(role, 0, 11));
        state(assigned.get(user).remove(role));
        drop();
    }

    int bound(boolean dynamic, int roles, int n) {
        argument(in(roles, 0, 4095) && in(n, 2, 6) && set(roles).size() >= n);
        Bound bound = new Bound(dynamic, set(roles), n);
        state(bounds.size() < 6 && !broken(bound));
        bounds.add(bound);
        return bounds.size() - 1;
    }

    void rank(int user, int rank, boolean none) {
        argument(in(user, 0, 7));
        ranks.put(user, rank);
        if (none) {
            ranks.remove(user);
        }
    }

    void open(int session, int user) {
        argument(in(session, 0, 5) && in(user, 0, 7));
        state(!owners.containsKey(session));
        owners.put(session, user);
        active.get(session).clear();
        counts[session] = 0;
    }

    void close(int session) {
        argument(in(session, 0, 5));
        state(owners.containsKey(session));
        owners.remove(session);
    }

    void activate(int session, int role, boolean on) {
        argument(in(session, 0, 5) && in(role, 0, 11));
        state(owners.containsKey(session) && active.get(session).contains(role) != on);
        if (!on) {
            active.get(session).remove(role);
            return;
        }
        state(spread(assigned.get(owners.get(session))).contains(role));
        active.get(session).add(role);
        if (broken()) {
            active.get(session).remove(role);
            state(false);
        }
    }

    int holds(int session) {
        argument(in(session, 0, 5));
        return owners.containsKey(session) ? bits(spread(active.get(session))) : -1;
    }

    int authorized(int user) {
        argument(in(user, 0, 7));
        return bits(spread(assigned.get(user)));
    }

    void object(int object, int klass, int level, boolean none) {
        argument(in(object, 0, 15) && in(klass, 0, 9));
        classes[object] = klass;
        levels.put(object, level);
        if (none) {
            levels.remove(object);
        }
    }

    int feed(long bytes, int n) {
        argument(in(n, 1, 8));
        state(tape.length() + n <= 300);
        StringBuilder more = new StringBuilder();
        for (int k = 0; k < n; k++) {
            more.insert(0, (char) Math.floorMod(bytes, 256L));
            bytes = Math.floorDiv(bytes, 256L);
        }
        tape += more;
        return tape.length();
    }

    int policy() {
        String text = tape;
        tape = "";
        int[] nodes = {0};
        place = wrongPlace(text, nodes);
        argument(place == -1);
        policy = text;
        return nodes[0];
    }

    int place() {
        return place;
    }

    /** What may still come stands on a stack, the next one on top; one of one byte is that byte. */
    private static int wrongPlace(String text, int[] nodes) {
        Deque<String> due = new ArrayDeque<>(List.of("node"));
        Deque<Character> open = new ArrayDeque<>();
        Set<Character> digits = new TreeSet<>();
        int at = 0;
        int brackets = 0;
        while (!due.isEmpty()) {
            char c = at < text.length() ? text.charAt(at) : '\uffff';
            String top = due.pop();
            boolean taken = true;
            switch (top) {
                case "node" -> {
                    if (nodes[0] >= 40) {
                        return at;
                    }
                    nodes[0]++;
                    if (c == 'p' || c == 'd') {
                        if (!open.isEmpty() && open.peek() == 'O') {
                            return at;
                        }
                        push(due, "target", "condition", "+", ";");
                    } else if ("DPFXYO".indexOf(c) >= 0 && open.size() < 5) {
                        open.push(c);
                        push(due, "target", "{", "node", "more", "+", "-");
                    } else {
                        return at;
                    }
                }
                case "more" -> {
                    if (c == '}') {
                        open.pop();
                    } else {
                        push(due, "node", "more");
                        taken = false;
                    }
                }
                case "target" -> {
                    taken = c == '[';
                    if (taken) {
                        push(due, "match", "behind");
                    }
                }
                case "behind" -> {
                    if (",|&".indexOf(c) >= 0) {
                        push(due, "match", "behind");
                    } else if (c != ']') {
                        return at;
                    }
                }
                case "condition" -> {
                    taken = c == '?';
                    if (taken) {
                        push(due, "expression");
                    }
                }
                case "expression" -> {
                    if (c == '!') {
                        push(due, "expression");
                    } else if (c == '(') {
                        brackets++;
                        if (brackets > 6) {
                            return at;
                        }
                        push(due, "expression", "operator", "expression", ")");
                    } else {
                        push(due, "match");
                        taken = false;
                    }
                }
                case "operator" -> {
                    if (c != '&' && c != '|') {
                        return at;
                    }
                }
                case ")" -> {
                    if (c != ')') {
                        return at;
                    }
                    brackets--;
                }
                case "match" -> {
                    if ("aclhsLS".indexOf(c) >= 0) {
                        push(due, "any sign", "number");
                    } else if (c == 'r' || c == 'u') {
                        push(due, "=", "number");
                    } else {
                        return at;
                    }
                }
                case "any sign" -> {
                    if ("=<>".indexOf(c) < 0) {
                        return at;
                    }
                }
                case "number" -> {
                    if (!in(c, '0', '9')) {
                        return at;
                    }
                    if (c != '0') {
                        push(due, "digit", "digit");
                    }
                }
                case "digit" -> taken = in(c, '0', '9');
                case "+", "-" -> {
                    taken = c == top.charAt(0);
                    if (taken) {
                        digits.clear();
                        push(due, "first duty");
                    }
                }
                case "first duty", "duty" -> {
                    taken = in(c, '0', '7');
                    if (!taken && top.equals("first duty") || taken && !digits.add(c)) {
                        return at;
                    }
                    if (taken) {
                        push(due, "duty");
                    }
                }
                default -> {
                    if (c != top.charAt(0)) {
                        return at;
                    }
                }
            }
            if (taken) {
                at++;
            }
        }
        return at == text.length() ? -1 : at;
    }

    private static void push(Deque<String> due, String... parts) {
        for (int k = parts.length - 1; k >= 0; k--) {
            due.push(parts[k]);
        }
    }

    /** Walks a right text for one request. */
    private final class Walk {
        private final int[] asked;
        private int at = 0;

        Walk(int... asked) {
            this.asked = asked;
        }

        private char take() {
            return policy.charAt(at++);
        }

        private boolean takeIf(char c) {
            boolean there = at < policy.length() && policy.charAt(at) == c;
            if (there) {
                at++;
            }
            return there;
        }

        /** 'f', 'i' or 't'. */
        private char match() {
            char letter = take();
            char sign = take();
            int from = at;
            while (at < policy.length() && Character.isDigit(policy.charAt(at))) {
                at++;
            }
            int number = Integer.parseInt(policy.substring(from, at));
            int user = owners.get(asked[0]);
            Integer left;
            switch (letter) {
                case 'a' -> left = asked[1];
                case 'c' -> left = classes[asked[2]];
                case 'h' -> left = asked[3];
                case 'u' -> left = user;
                case 'l', 'L' -> left = levels.get(asked[2]);
                case 's', 'S' -> left = ranks.get(user);
                default -> left = spread(active.get(asked[0])).contains(number) ? number : number + 1;
            }
            if (left == null) {
                return Character.isUpperCase(letter) ? 'i' : 'f';
            }
            int order = left.compareTo(number);
            return (sign == '=' ? order == 0 : sign == '<' ? order < 0 : order > 0) ? 't' : 'f';
        }

        private char all(String values) {
            return values.indexOf('f') >= 0 ? 'f' : values.indexOf('i') >= 0 ? 'i' : 't';
        }

        private char any(String values) {
            return values.indexOf('t') >= 0 ? 't' : values.indexOf('i') >= 0 ? 'i' : 'f';
        }

        private char target() {
            if (!takeIf('[')) {
                return 't';
            }
            String anys = "";
            do {
                String alls = "";
                do {
                    String matches = "";
                    do {
                        matches += match();
                    } while (takeIf(','));
                    alls += all(matches);
                } while (takeIf('|'));
                anys += any(alls);
            } while (takeIf('&'));
            take();
            return all(anys);
        }

        private char expression() {
            if (takeIf('!')) {
                char inner = expression();
                return inner == 't' ? 'f' : inner == 'f' ? 't' : 'i';
            }
            if (!takeIf('(')) {
                return match();
            }
            char left = expression();
            char operator = take();
            char right = expression();
            take();
            return operator == '&' ? all("" + left + right) : any("" + left + right);
        }

        private Set<Integer> duties(char sign) {
            Set<Integer> duties = new TreeSet<>();
            if (takeIf(sign)) {
                while (at < policy.length() && in(policy.charAt(at), '0', '7')) {
                    duties.add(take() - '0');
                }
            }
            return duties;
        }

        private Verdict node() {
            char kind = take();
            char target = target();
            if (kind == 'p' || kind == 'd') {
                char condition = takeIf('?') ? expression() : 't';
                Set<Integer> duties = duties('+');
                take();
                int effect = kind == 'p' ? 1 : 2;
                int value = target == 'f' || target == 't' && condition == 'f' ? 0
                        : target == 't' && condition == 't' ? effect : effect + 2;
                return new Verdict(value, duties, target);
            }
            take();
            List<Verdict> nodes = new ArrayList<>();
            while (!takeIf('}')) {
                nodes.add(node());
            }
            Set<Integer> permit = duties('+');
            Set<Integer> deny = duties('-');
            if (target == 'f') {
                return new Verdict(0, Set.of(), target);
            }
            List<Verdict> counted = new ArrayList<>(nodes);
            int value = combine(kind, counted);
            Set<Integer> duties = new TreeSet<>();
            for (Verdict node : counted) {
                if (node.value == value) {
                    duties.addAll(node.duties);
                }
            }
            duties.addAll(value == 1 ? permit : value == 2 ? deny : Set.of());
            if (target == 'i' && (value == 1 || value == 2)) {
                value += 2;
            }
            return new Verdict(value, duties, target);
        }

        /** Leaves in the list the nodes that count for the duties. */
        private int combine(char kind, List<Verdict> nodes) {
            String seen = "";
            for (Verdict node : nodes) {
                seen += node.value;
            }
            switch (kind) {
                case 'X':
                    return seen.contains("1") ? 1 : 2;
                case 'Y':
                    return seen.contains("2") ? 2 : 1;
                case 'F':
                    nodes.removeIf(node -> node.value == 0);
                    break;
                case 'O':
                    nodes.removeIf(node -> node.target == 'f');
                    if (nodes.size() > 1 || nodes.stream().anyMatch(node -> node.target == 'i')) {
                        return 5;
                    }
                    break;
                case 'D':
                    return overrides(seen);
                default:
                    String turned = seen.replace('1', 'x').replace('2', '1').replace('x', '2')
                            .replace('3', 'x').replace('4', '3').replace('x', '4');
                    return new int[] {0, 2, 1, 4, 3, 5}[overrides(turned)];
            }
            if (nodes.isEmpty()) {
                return 0;
            }
            nodes.subList(1, nodes.size()).clear();
            return nodes.get(0).value;
        }

        private int overrides(String seen) {
            return seen.contains("2") ? 2
                    : seen.contains("5") ? 5
                    : seen.contains("4") && (seen.contains("3") || seen.contains("1")) ? 5
                    : seen.contains("4") ? 4
                    : seen.contains("1") ? 1
                    : seen.contains("3") ? 3 : 0;
        }
    }

    int decide(int session, int action, int object, int hour) {
        argument(in(session, 0, 5) && in(action, 0, 9) && in(object, 0, 15) && in(hour, 0, 23));
        state(owners.containsKey(session));
        if (policy.isEmpty()) {
            return 0;
        }
        Verdict verdict = new Walk(session, action, object, hour).node();
        boolean decided = verdict.value == 1 || verdict.value == 2;
        return verdict.value + (decided ? 10 * bits(verdict.duties) : 0);
    }

    int request(int session, int target, int hour, int value) {
        argument(in(target, 0, 159));
        int action = target >> 4;
        int object = target & 15;
        int decision = decide(session, action, object, hour);
        Set<Integer> duties = set(decision / 10);
        boolean done = decision % 10 == 1
                && !duties.contains(6) && !duties.contains(7)
                && (!duties.contains(5) || in(hour, 8, 17))
                && (!duties.contains(4) || counts[session] < 3);
        if (done && duties.contains(4)) {
            counts[session]++;
        }
        int[] entry = {session, action, object, decision % 10, decision / 10, done ? 1 : 0, 0};
        book.add(entry);
        entry[6] = dueLink(book.size() - 1);
        if (!done) {
            throw new UnsupportedOperationException();
        }
        values[object] = action == 1 ? value : action == 2 ? values[object] + value : values[object];
        return values[object];
    }

    private int dueLink(int k) {
        int link = k == 0 ? 1469598103 : book.get(k - 1)[6];
        for (int what = 0; what < 6; what++) {
            link = (link ^ book.get(k)[what]) * 16777619;
        }
        return (link ^ k) * 16777619;
    }

    private int[] kept(int k) {
        if (k < 0 || k < book.size() - 40 || k >= book.size()) {
            throw new IndexOutOfBoundsException();
        }
        return book.get(k);
    }

    int entry(int k, int what) {
        argument(in(what, 0, 6));
        return k == -1 ? book.size() : kept(k)[what];
    }

    void touch(int k, int what, int bits) {
        argument(in(what, 0, 5));
        kept(k)[what] ^= bits;
    }

    int audit() {
        for (int k = Math.max(0, book.size() - 40); k < book.size(); k++) {
            if (dueLink(k) != book.get(k)[6]) {
                return k;
            }
        }
        return -1;
    }
}
