import java.util.ArrayDeque;
import java.util.ArrayList;
import java.util.Arrays;
import java.util.Comparator;
import java.util.Deque;
import java.util.List;

/**
 * The document once more, written the long way: objects for doors and children, everything worked
 * out anew at each call, the law read by cutting its text apart, the pictures as real Java classes.
 * RandomRunsTest lets it answer the same calls as DoorsForThree.
 */
final class PlainModel {
    static final int BAD = -1, NOT = -2, FULL = -3, STATE = -5;

    static final class Door { int day, what, size = 1, opener = NOT; }
    static final class Child { int age, likes, waits = 5, from, till; }
    record Change(int number, int what, int was, int v) { }
    record Image(int[] openers, int today, int opened, int early, int worth) { }

    final List<Door> doors = new ArrayList<>();
    final List<Child> children = new ArrayList<>();
    int seen = 0, spoils = 1;
    StringBuilder tape = new StringBuilder();
    String law = null;
    final Deque<Change> done = new ArrayDeque<>();
    final Deque<Change> undone = new ArrayDeque<>();
    int today, opened, early, worthOfOpened;
    Image image = null;
    final List<Picture> bodies = new ArrayList<>();
    List<Integer> trace = new ArrayList<>();
    final Object[] shelves = new Object[6];

    // ---- doors, children

    static boolean in(int v, int least, int most) { return least <= v && v <= most; }

    public int door(int day, int what) {
        if (!in(day, 1, 24) || !in(what, 0, 7)) return BAD;
        if (doors.size() == 12) return FULL;
        Door d = new Door();
        d.day = day; d.what = what;
        doors.add(d);
        return doors.size() - 1;
    }

    public int doors(int shelf, int i, int n) {
        if (!in(shelf, 0, 5) || !in(n, 1, 12)) return BAD;
        if (shelves[shelf] == null) return 0;
        if (!(shelves[shelf] instanceof byte[] row)) return -12;
        for (int k = 0; k < n; k++) {
            long at = i + 3L * k;
            if (at < 0 || at + 2 >= row.length || doors.size() == 12) return k;
            int p = (int) at;
            if (!in(row[p], 1, 24) || !in(row[p + 1], 0, 7) || !in(row[p + 2], 1, 9)) return k;
            door(row[p], row[p + 1]);
            doors.get(doors.size() - 1).size = row[p + 2];
        }
        return n;
    }

    public int child(int age, int likes) {
        if (!in(age, 1, 18) || !in(likes, 0, 7)) return BAD;
        if (children.size() == 5) return FULL;
        Child c = new Child();
        c.age = age; c.likes = likes;
        children.add(c);
        return children.size() - 1;
    }

    int number(int number, int what) {
        if (what >= 0 && what <= 2) {
            if (!in(number, 0, doors.size() - 1)) return BAD;
            Door d = doors.get(number);
            return what == 0 ? d.day : what == 1 ? d.what : d.size;
        }
        if (what >= 3 && what <= 7) {
            if (!in(number, 0, children.size() - 1)) return BAD;
            Child c = children.get(number);
            return new int[] {c.age, c.likes, c.waits, c.from, c.till}[what - 3];
        }
        if ((what == 8 || what == 9) && number == 0) return what == 8 ? seen : spoils;
        return BAD;
    }

    void tell(int number, int what, int v) {
        switch (what) {
            case 0 -> doors.get(number).day = v;
            case 1 -> doors.get(number).what = v;
            case 2 -> doors.get(number).size = v;
            case 3 -> children.get(number).age = v;
            case 4 -> children.get(number).likes = v;
            case 5 -> children.get(number).waits = v;
            case 6 -> children.get(number).from = v;
            case 7 -> children.get(number).till = v;
            case 8 -> seen = v;
            default -> spoils = v;
        }
    }

    static boolean allowed(int what, int v) {
        return switch (what) {
            case 0 -> in(v, 1, 24);
            case 1, 4 -> in(v, 0, 7);
            case 2 -> in(v, 1, 9);
            case 3 -> in(v, 1, 18);
            case 5, 9 -> in(v, 0, 9);
            case 6, 7 -> in(v, 0, 24);
            case 8 -> in(v, 0, 1);
            default -> false;
        };
    }

    public int mend(int number, int what, int v) {
        int was = number(number, what);
        if (was == BAD || !allowed(what, v)) return BAD;
        if (was == v) return was;
        tell(number, what, v);
        done.addLast(new Change(number, what, was, v));
        if (done.size() > 40) done.removeFirst();
        undone.clear();
        return was;
    }

    public int of(int number, int what) {
        if (what == 10) return in(number, 0, doors.size() - 1) ? doors.get(number).opener : BAD;
        return number(number, what);
    }

    public int feed(int letter) {
        if (!in(letter, 0, 255)) return BAD;
        if (tape.length() == 120) return FULL;
        tape.append((char) letter);
        return tape.length();
    }

    public int law() {
        String text = tape.toString();
        tape = new StringBuilder();
        int fault = fault(text);
        if (fault >= 0) return -100 - fault;
        law = text;
        return 1;
    }

    /** One left to right pass with a stack of what is open; -1: none. */
    static int fault(String text) {
        Deque<boolean[]> outer = new ArrayDeque<>();
        Deque<Integer> outerAhead = new ArrayDeque<>();
        int ahead = 0, digits = 0;
        boolean compared = false, asked = false, wantsOperand = true;
        int open = 0;
        for (int i = 0; i < text.length(); i++) {
            char c = text.charAt(i);
            if (wantsOperand) {
                if (c == '(' || c == '!' || c == '-') {
                    if (open == 6) return i;
                    open++;
                    if (c == '(') {
                        outer.push(new boolean[] {compared});
                        outerAhead.push(ahead);
                        ahead = 0;
                        compared = false;
                    } else {
                        ahead++;
                    }
                } else if ("swdank".indexOf(c) >= 0 || c >= '0' && c <= '9') {
                    digits = c >= '0' && c <= '9' ? 1 : 0;
                    wantsOperand = false;
                    open -= ahead;
                    ahead = 0;
                } else {
                    return i;
                }
                continue;
            }
            if (c >= '0' && c <= '9' && digits > 0 && digits < 4) {
                digits++;
                continue;
            }
            digits = 0;
            if (c == ')' && !outer.isEmpty()) {
                compared = outer.pop()[0];
                ahead = outerAhead.pop();
                open = open - 1 - ahead;
                ahead = 0;
                continue;
            }
            if (c == '|' || c == '&') {
                compared = false;
            } else if (c == '<' || c == '=' || c == '>') {
                if (compared) return i;
                compared = true;
            } else if (c == '?' && outer.isEmpty() && !asked) {
                asked = true;
                compared = false;
            } else if (c == ';' && outer.isEmpty()) {
                asked = false;
                compared = false;
            } else if ("+-*/%".indexOf(c) < 0) {
                return i;
            }
            wantsOperand = true;
        }
        return wantsOperand || !outer.isEmpty() ? text.length() : -1;
    }

    static int lawGives(String text, int[] named) {
        for (String line : text.split(";")) {
            int ask = line.indexOf('?');
            if (ask < 0) return gives(line, named);
            if (gives(line.substring(0, ask), named) != 0) return gives(line.substring(ask + 1), named);
        }
        return 0;
    }

    /** Cuts at the last sign of the loosest kind outside all brackets. */
    static int gives(String e, int[] named) {
        for (String signs : new String[] {"|", "&", "<=>", "+-", "*/%"}) {
            int depth = 0;
            for (int i = e.length() - 1; i > 0; i--) {
                char c = e.charAt(i);
                depth += c == ')' ? 1 : c == '(' ? -1 : 0;
                char before = e.charAt(i - 1);
                boolean behindOperand = before == ')' || Character.isLetterOrDigit(before);
                if (depth == 0 && behindOperand && signs.indexOf(c) >= 0) {
                    int a = gives(e.substring(0, i), named);
                    int b = gives(e.substring(i + 1), named);
                    return switch (c) {
                        case '|' -> a != 0 | b != 0 ? 1 : 0;
                        case '&' -> a != 0 & b != 0 ? 1 : 0;
                        case '<' -> a < b ? 1 : 0;
                        case '=' -> a == b ? 1 : 0;
                        case '>' -> a > b ? 1 : 0;
                        case '+' -> a + b;
                        case '-' -> a - b;
                        case '*' -> a * b;
                        case '/' -> b == 0 ? 0 : a / b;
                        default -> b == 0 ? 0 : a % b;
                    };
                }
            }
        }
        char first = e.charAt(0);
        if (first == '!') return gives(e.substring(1), named) == 0 ? 1 : 0;
        if (first == '-') return -gives(e.substring(1), named);
        if (first == '(') return gives(e.substring(1, e.length() - 1), named);
        int name = "swdank".indexOf(first);
        return name >= 0 ? named[name] : Integer.parseInt(e);
    }

    int worthOf(Child c, Door d, int size, int n) {
        int w = d.what == c.likes ? 1 : 0;
        if (law == null) return Math.max(0, 3 * size + 4 * w - spoils * n);
        int v = lawGives(law, new int[] {size, w, d.day, c.age, n, seen});
        return v < 0 ? 0 : v > 99 ? 99 : v;
    }

    public int worth(int child, int dn) {
        if (!in(child, 0, children.size() - 1) || dn < 0 || dn / 100 >= doors.size() || dn % 100 > 24) return BAD;
        Door d = doors.get(dn / 100);
        return worthOf(children.get(child), d, d.size, dn % 100);
    }

    // ---- givings

    static boolean away(Child c, int day) { return c.from > 0 && in(day, c.from, c.till); }

    /** Days late, or -1: never. */
    static int late(Child c, Door d) {
        if (!away(c, d.day)) return 0;
        return c.till + 1 > 24 ? -1 : c.till + 1 - d.day;
    }

    int eaten(int c, Door d, int size) {
        int n = late(children.get(c), d);
        return n < 0 || size == 0 ? 0 : worthOf(children.get(c), d, size, n);
    }

    int eaten(int c, int d) { return eaten(c, doors.get(d), doors.get(d).size); }

    List<Integer> byDay() {
        List<Integer> order = new ArrayList<>();
        for (int d = 0; d < doors.size(); d++) order.add(d);
        order.sort(Comparator.comparingInt(d -> doors.get(d).day));
        return order;
    }

    List<Integer> eldest() {
        List<Integer> order = new ArrayList<>();
        for (int c = 0; c < children.size(); c++) order.add(c);
        order.sort(Comparator.comparingInt(c -> -children.get(c).age));
        return order;
    }

    int next(int rule, int turn, int[] has, Door d, int size) {
        int many = children.size();
        if (rule == 0) return turn % many;
        if (rule == 1) return eldest().get(turn % many);
        if (rule == 2) {
            List<Integer> thereAndBack = new ArrayList<>();
            for (int c = 0; c < many; c++) thereAndBack.add(c);
            for (int c = many - 1; c >= 0; c--) thereAndBack.add(c);
            return thereAndBack.get(turn % thereAndBack.size());
        }
        int best = -1, most = 0;
        for (int c = 0; c < many; c++) {
            int will = rule == 3 ? eaten(c, d, size) - has[c] : -has[c];
            if (best < 0 || will > most) { best = c; most = will; }
        }
        return best;
    }

    int[] giving(int rule) {
        int[] given = new int[doors.size()];
        Arrays.fill(given, NOT);
        int[] has = new int[5];
        int turn = 0;
        if (children.isEmpty()) return given;
        for (int d : byDay()) {
            given[d] = next(rule, turn++, has, doors.get(d), doors.get(d).size);
            has[given[d]] += eaten(given[d], d);
        }
        return given;
    }

    int worthTo(int c, int[] given, int whose) {
        int sum = 0;
        for (int d = 0; d < given.length; d++) if (given[d] == whose) sum += eaten(c, d);
        return sum;
    }

    int[] alls(int[] given) {
        int[] alls = new int[children.size()];
        for (int c = 0; c < alls.length; c++) alls[c] = worthTo(c, given, c);
        return alls;
    }

    static int unfair(int[] alls) {
        if (alls.length == 0) return 0;
        return Arrays.stream(alls).max().getAsInt() - Arrays.stream(alls).min().getAsInt();
    }

    int envy(int[] given) {
        int bits = 0;
        for (int c = 0; c < children.size(); c++) {
            for (int o = 0; o < children.size(); o++) {
                if (o != c && worthTo(c, given, o) > worthTo(c, given, c)) bits |= 1 << c;
            }
        }
        return bits;
    }

    boolean rc(int rc) { return rc >= 0 && rc / 10 < 5 && rc % 10 < children.size(); }

    public int whose(int rd) {
        if (rd < 0 || rd / 100 > 4 || rd % 100 >= doors.size()) return BAD;
        return giving(rd / 100)[rd % 100];
    }

    public int all(int rc) { return rc(rc) ? alls(giving(rc / 10))[rc % 10] : BAD; }

    public int giving(int rule, int what) {
        if (!in(rule, 0, 4) || !in(what, 0, 2)) return BAD;
        int[] given = giving(rule);
        return what == 0 ? unfair(alls(given)) : what == 1 ? Arrays.stream(alls(given)).sum() : envy(given);
    }

    public int bestRule(int what) {
        if (!in(what, 0, 1)) return BAD;
        int best = 0;
        for (int r = 0; r < 5; r++) {
            int u = giving(r, 0), bu = giving(best, 0);
            if (u < bu || u == bu && giving(r, 1) > giving(best, 1)) best = r;
        }
        return what == 0 ? best : giving(best, 0);
    }

    int[] fairest;
    int withoutEnvy;

    void tryAll(int[] given, int door, int[][] eaten) {
        if (door == given.length) {
            int many = children.size();
            int[][] has = new int[many][many];
            for (int d = 0; d < given.length; d++) for (int c = 0; c < many; c++) has[c][given[d]] += eaten[c][d];
            int[] own = new int[many];
            boolean envy = false;
            for (int c = 0; c < many; c++) {
                own[c] = has[c][c];
                for (int o = 0; o < many; o++) if (has[c][o] > own[c]) envy = true;
            }
            if (!envy) withoutEnvy++;
            if (fairest == null) { fairest = given.clone(); return; }
            int[] before = alls(fairest);
            int u = unfair(own), bu = unfair(before);
            if (u < bu || u == bu && Arrays.stream(own).sum() > Arrays.stream(before).sum()) fairest = given.clone();
            return;
        }
        for (int c = 0; c < children.size(); c++) {
            given[door] = c;
            tryAll(given, door + 1, eaten);
        }
    }

    int searched() {
        if (doors.size() > 8 || children.size() > 3) return STATE;
        if (children.isEmpty()) return NOT;
        fairest = null;
        withoutEnvy = 0;
        int[][] eaten = new int[children.size()][doors.size()];
        for (int c = 0; c < children.size(); c++) for (int d = 0; d < doors.size(); d++) eaten[c][d] = eaten(c, d);
        tryAll(new int[doors.size()], 0, eaten);
        return 1;
    }

    public int fairest(int door) {
        if (!in(door, -2, doors.size() - 1)) return BAD;
        int state = searched();
        if (state < 0) return state;
        if (door >= 0) return fairest[door];
        return door == -1 ? unfair(alls(fairest)) : Arrays.stream(alls(fairest)).sum();
    }

    public int envyFree() {
        int state = searched();
        return state < 0 ? state : withoutEnvy;
    }

    int firstSwap(int[] given) {
        if (children.isEmpty()) return NOT;
        for (int i = 0; i < given.length; i++) {
            for (int j = i + 1; j < given.length; j++) {
                int a = given[i], b = given[j];
                if (a == b) continue;
                if (eaten(a, j) > eaten(a, i) && eaten(b, i) > eaten(b, j)) return 20 * i + j;
            }
        }
        return NOT;
    }

    public int swap(int rule) { return in(rule, 0, 4) ? firstSwap(giving(rule)) : BAD; }

    public int swaps(int rule, int what) {
        if (!in(rule, 0, 4) || !in(what, 0, 1)) return BAD;
        int[] given = giving(rule);
        int made = 0;
        for (int pair = firstSwap(given); pair != NOT && made < 50; pair = firstSwap(given)) {
            int kept = given[pair / 20];
            given[pair / 20] = given[pair % 20];
            given[pair % 20] = kept;
            made++;
        }
        return what == 0 ? made : unfair(alls(given));
    }

    public int big(int rule, int child) {
        if (!in(rule, 0, 4) || !in(child, -1, children.size() - 1)) return BAD;
        if (doors.isEmpty() || children.isEmpty()) return NOT;
        int big = 0;
        for (int d = 0; d < doors.size(); d++) if (doors.get(d).size > doors.get(big).size) big = d;
        int[] given = giving(rule);
        given[big] = NOT;
        int[] alls = alls(given);
        for (int c = 0; c < alls.length; c++) alls[c] += eaten(c, doors.get(big), doors.get(big).size / alls.length);
        return child < 0 ? unfair(alls) : alls[child];
    }

    // ---- away, gathering, waiting

    public int away(int rc, int what) {
        if (!rc(rc) || !in(what, 0, 2)) return BAD;
        Child c = children.get(rc % 10);
        int[] given = giving(rc / 10);
        int away = 0, never = 0, days = 0;
        for (int d = 0; d < doors.size(); d++) {
            if (away(c, doors.get(d).day)) away++;
            if (given[d] != rc % 10) continue;
            int n = late(c, doors.get(d));
            if (n < 0) never++; else days += n;
        }
        return what == 0 ? away : what == 1 ? never : days;
    }

    int gathered(int rc, int g) {
        int[] given = giving(rc / 10);
        Child c = children.get(rc % 10);
        List<Door> waiting = new ArrayList<>();
        int sum = 0;
        for (int d : byDay()) {
            if (given[d] != rc % 10) continue;
            waiting.add(doors.get(d));
            if (waiting.size() == g) {
                for (Door w : waiting) sum += worthOf(c, w, w.size, doors.get(d).day - w.day);
                waiting.clear();
            }
        }
        for (Door w : waiting) sum += worthOf(c, w, w.size, 24 - w.day);
        return sum;
    }

    public int gather(int rc, int g) {
        if (!rc(rc) || !in(g, 0, 9)) return BAD;
        if (g > 0) return gathered(rc, g);
        int best = 1;
        for (int k = 2; k <= 9; k++) if (gathered(rc, k) > gathered(rc, best)) best = k;
        return best;
    }

    public int waits(int rc, int what) {
        if (!rc(rc) || !in(what, 0, 1)) return BAD;
        int last = Math.min(24, children.get(rc % 10).waits * 3 + (seen == 0 ? 2 : 0));
        if (what == 0) return last;
        int[] given = giving(rc / 10);
        int bits = 0;
        for (int d = 0; d < given.length; d++) if (given[d] == rc % 10 && doors.get(d).day > last) bits |= 1 << d;
        return bits;
    }

    // ---- at five, told, second

    int bytes(int shelf) {
        if (shelves[shelf] == null) return -11;
        return shelves[shelf] instanceof byte[] ? 0 : -12;
    }

    List<Integer> early(int shelf, int day) {
        List<Integer> early = new ArrayList<>();
        for (byte b : (byte[]) shelves[shelf]) {
            if (in(b, 0, doors.size() - 1) && doors.get(b).day > day && !early.contains((int) b)) early.add((int) b);
        }
        return early;
    }

    List<Integer> who(int shelf, int day, int rule) {
        List<Integer> who = new ArrayList<>();
        int[] given = giving(rule);
        for (int c = 0; c < children.size(); c++) {
            Child child = children.get(c);
            int me = c;
            boolean reason = early(shelf, day).stream().anyMatch(d -> doors.get(d).what == child.likes || given[d] == me);
            if (!away(child, day) && reason) who.add(c);
        }
        return who;
    }

    public int atFive(int shelf, int day, int rule, int what) {
        if (!in(shelf, 0, 5) || !in(day, 1, 24) || !in(rule, 0, 4) || !in(what, 0, 2)) return BAD;
        if (bytes(shelf) != 0) return bytes(shelf);
        if (what == 0) return early(shelf, day).size();
        List<Integer> who = who(shelf, day, rule);
        if (what == 2) return who.size() == 1 ? who.get(0) : NOT;
        return who.stream().mapToInt(c -> 1 << c).sum();
    }

    public int guard(int shelf, int day, int rule, int what) {
        if (!in(shelf, 0, 5) || !in(day, 1, 24) || !in(rule, 0, 4) || !in(what, 0, 1)) return BAD;
        if (bytes(shelf) != 0) return bytes(shelf);
        if (children.isEmpty()) return NOT;
        List<Integer> who = who(shelf, day, rule);
        if (who.isEmpty()) return 0;
        return what == 0 ? who.get(0) : who.size() - 1;
    }

    public int judge(int shelf, int rule) {
        if (!in(shelf, 0, 5) || !in(rule, 0, 4)) return BAD;
        if (bytes(shelf) != 0) return bytes(shelf);
        int[] given = giving(rule);
        byte[] told = (byte[]) shelves[shelf];
        for (int i = 0; i < told.length; i++) {
            if (i >= given.length) return i;
            if (told[i] == -1) continue;
            if (told[i] < 0 || given[i] != told[i]) return i;
        }
        return NOT;
    }

    public int byWhat(int shelf) {
        if (!in(shelf, 0, 5)) return BAD;
        if (bytes(shelf) != 0) return bytes(shelf);
        int bits = 0;
        for (int r = 0; r < 5; r++) if (judge(shelf, r) == NOT) bits += 1 << r;
        return bits;
    }

    public int second(int rule, int s) {
        if (!in(rule, 0, 4) || !in(s, 1, 9)) return BAD;
        int[] has = new int[children.size()];
        if (has.length == 0) return 0;
        List<Integer> order = byDay();
        for (int turn = 0; turn < 2 * order.size(); turn++) {
            Door d = doors.get(order.get(turn % order.size()));
            int size = turn < order.size() ? d.size : s;
            int c = next(rule, turn, has, d, size);
            has[c] += eaten(c, d, size);
        }
        return unfair(has);
    }

    public int pairs(int rule, int what) {
        if (!in(rule, 0, 4) || !in(what, 0, 1)) return BAD;
        int[] given = giving(rule);
        int best = NOT, most = 0;
        for (int a = 0; a < children.size(); a++) {
            for (int b = a + 1; b < children.size(); b++) {
                int more = worthTo(a, given, b) + worthTo(b, given, a) - worthTo(a, given, a) - worthTo(b, given, b);
                if (more > most) { most = more; best = 10 * a + b; }
            }
        }
        return what == 0 ? best : most;
    }

    public int drawn(int seed, int n, int child) {
        if (!in(n, 1, 50) || !in(child, -1, children.size() - 1)) return BAD;
        if (children.isEmpty()) return 0;
        int z = seed, sum = 0, most = 0;
        for (int i = 0; i < n; i++) {
            int[] alls = new int[children.size()];
            for (int d : byDay()) {
                z = z * 1103515245 + 12345;
                int c = (z >>> 8) % alls.length;
                alls[c] += eaten(c, d);
            }
            sum += unfair(alls);
            int top = Arrays.stream(alls).max().getAsInt();
            if (child >= 0 && alls[child] == top && Arrays.stream(alls).filter(v -> v == top).count() == 1) most++;
        }
        return child < 0 ? sum : most;
    }

    // ---- in deed

    public int day() { return today == 24 ? STATE : ++today; }

    public int open(int child, int door) {
        if (!in(child, 0, children.size() - 1) || !in(door, 0, doors.size() - 1)) return BAD;
        Door d = doors.get(door);
        if (d.opener != NOT) return STATE;
        int v = worthOf(children.get(child), d, d.size, d.day > today ? 0 : today - d.day);
        d.opener = child;
        opened++;
        if (d.day > today) early++;
        worthOfOpened += v;
        return v;
    }

    public int forgotten() {
        int bits = 0;
        for (int d = 0; d < doors.size(); d++) if (doors.get(d).opener == NOT && doors.get(d).day < today) bits |= 1 << d;
        return bits;
    }

    public int led(int what) { return in(what, 0, 3) ? new int[] {opened, early, worthOfOpened, today}[what] : BAD; }

    public int image() {
        image = new Image(doors.stream().mapToInt(d -> d.opener).toArray(), today, opened, early, worthOfOpened);
        return opened;
    }

    public int back() {
        if (image == null) return STATE;
        for (int d = 0; d < doors.size(); d++) doors.get(d).opener = d < image.openers.length ? image.openers[d] : NOT;
        today = image.today;
        opened = image.opened;
        early = image.early;
        worthOfOpened = image.worth;
        return opened;
    }

    public int undo() {
        if (done.isEmpty()) return STATE;
        Change c = done.removeLast();
        tell(c.number, c.what, c.was);
        undone.addLast(c);
        return done.size();
    }

    public int redo() {
        if (undone.isEmpty()) return STATE;
        Change c = undone.removeLast();
        tell(c.number, c.what, c.v);
        done.addLast(c);
        return undone.size();
    }

    // ---- acts, shelves: the pictures are what the document's words say, as Java classes

    abstract static class Picture {
        int n;
        List<Integer> ran;
        abstract int opens(int x);
        abstract int gives(int x);
        abstract int waits(int x);
        abstract int tells(int x);
        abstract List<Integer> ran();
        abstract int number();
    }

    interface Opens {
        List<Integer> ran();
        int number();
        default int opens(int x) { ran().add(1); return x + number(); }
    }

    interface Tells {
        List<Integer> ran();
        int gives(int x);
        int waits(int x);
        default int tells(int x) { ran().add(2); return gives(x) - waits(1); }
    }

    static class PDoor extends Picture implements Opens, Tells {
        @Override public List<Integer> ran() { return ran; }
        @Override public int number() { return n; }
        @Override public int opens(int x) { return Opens.super.opens(x); }
        @Override public int tells(int x) { return Tells.super.tells(x); }
        @Override public int gives(int x) { ran.add(10); return opens(x) * 2; }
        @Override public int waits(int x) { ran.add(11); return x ^ n; }
    }

    static class PStar extends PDoor {
        @Override public int opens(int x) { ran.add(20); return super.opens(x) + 3; }
    }

    static class PBoot extends PDoor {
        @Override public int gives(int x) { ran.add(30); return -super.gives(x); }
    }

    static class PLamp extends PBoot {
        @Override public int waits(int x) { ran.add(40); return super.waits(x) * 3; }
        @Override public int gives(int x) { ran.add(41); return super.gives(x + 1); }
    }

    static class PSister extends PStar {
        @Override public int waits(int x) { ran.add(50); return super.waits(x) - opens(2); }
    }

    static class PDog extends PLamp {
        @Override public int tells(int x) { ran.add(60); return super.tells(x) ^ 5; }
    }

    static class PEmpty extends PDoor {
        @Override public int opens(int x) { ran.add(70); return super.opens(x) * 2; }
    }

    static class PAunt extends PSister {
        @Override public int gives(int x) { ran.add(80); return super.gives(x) + waits(2); }
        @Override public int tells(int x) { ran.add(81); return super.tells(x) - 1; }
    }

    static final Class<?>[] KINDS = {PDoor.class, PStar.class, PBoot.class, PLamp.class, PSister.class, PDog.class,
        PEmpty.class, PAunt.class};

    static Picture picture(int kind) {
        return switch (kind) {
            case 0 -> new PDoor();
            case 1 -> new PStar();
            case 2 -> new PBoot();
            case 3 -> new PLamp();
            case 4 -> new PSister();
            case 5 -> new PDog();
            case 6 -> new PEmpty();
            default -> new PAunt();
        };
    }

    public int body(int kind) {
        if (!in(kind, 0, 7)) return BAD;
        if (bodies.size() == 50) return FULL;
        Picture p = picture(kind);
        p.n = bodies.size();
        bodies.add(p);
        return p.n;
    }

    public int act(int body, int act, int x) {
        trace = new ArrayList<>();
        if (!in(body, 0, bodies.size() - 1) || !in(act, 0, 3)) return 0;
        Picture p = bodies.get(body);
        p.ran = trace;
        return act == 0 ? p.opens(x) : act == 1 ? p.gives(x) : act == 2 ? p.waits(x) : p.tells(x);
    }

    public int trace(int i) { return in(i, 0, Math.min(trace.size(), 24) - 1) ? trace.get(i) : BAD; }

    public int keep(int shelf, int body) {
        if (!in(shelf, 0, 5) || !in(body, -1, bodies.size() - 1)) return BAD;
        shelves[shelf] = body < 0 ? null : bodies.get(body);
        return 1;
    }

    public int row(int shelf, int sort, int n) {
        if (!in(shelf, 0, 5) || !in(sort, 0, 4) || n > 60) return BAD;
        if (n < 0) return -14;
        shelves[shelf] = switch (sort) {
            case 0 -> new byte[n];
            case 1 -> new short[n];
            case 2 -> new int[n];
            case 3 -> new long[n];
            default -> new boolean[n];
        };
        return 1;
    }

    int refusal(int shelf, int i) {
        if (!in(shelf, 0, 5)) return BAD;
        if (shelves[shelf] == null) return -11;
        if (shelves[shelf] instanceof Picture) return -12;
        return in(i, 0, java.lang.reflect.Array.getLength(shelves[shelf]) - 1) ? 1 : -13;
    }

    public int put(int shelf, int i, long v) {
        int refusal = refusal(shelf, i);
        if (refusal != 1) return refusal;
        if (shelves[shelf] instanceof byte[] r) r[i] = (byte) v;
        if (shelves[shelf] instanceof short[] r) r[i] = (short) v;
        if (shelves[shelf] instanceof int[] r) r[i] = (int) v;
        if (shelves[shelf] instanceof long[] r) r[i] = v;
        if (shelves[shelf] instanceof boolean[] r) r[i] = v != 0;
        return 1;
    }

    public long element(int shelf, int i) {
        if (refusal(shelf, i) != 1) return Long.MIN_VALUE;
        if (shelves[shelf] instanceof boolean[] r) return r[i] ? 1 : 0;
        return java.lang.reflect.Array.getLong(shelves[shelf], i);
    }

    public int shift(int shelf, int i, int other, int j, int n) {
        if (!in(shelf, 0, 5) || !in(other, 0, 5)) return BAD;
        Object from = shelves[shelf], to = shelves[other];
        if (from == null || to == null) return -11;
        if (from instanceof Picture || to instanceof Picture || from.getClass() != to.getClass()) return -12;
        try {
            System.arraycopy(from, i, to, j, n);
        } catch (IndexOutOfBoundsException e) {
            return -13;
        }
        return n;
    }

    public int taken(int shelf, int k) {
        if (!in(shelf, 0, 5) || !in(k, 0, 7)) return BAD;
        if (shelves[shelf] == null) return -11;
        if (!KINDS[k].isInstance(shelves[shelf])) return -12;
        return Arrays.asList(KINDS).indexOf(shelves[shelf].getClass());
    }

    public int count(int what) {
        return in(what, 0, 5)
                ? new int[] {doors.size(), children.size(), tape.length(), done.size(), bodies.size(), trace.size()}[what]
                : BAD;
    }
}
