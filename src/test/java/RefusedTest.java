import java.util.ArrayList;
import java.util.Arrays;
import java.util.List;

/**
 * "What is answered so changes nothing.": each call that is refused, and each that only asks, in an empty, a lively and a
 * full state; then all that can be asked or done must answer as on an object that never had the call.
 */
public final class RefusedTest {
    private static final int MIN = Integer.MIN_VALUE, MAX = Integer.MAX_VALUE;
    /** No certain answer is due: the call only asks. */
    private static final long ANY = Long.MAX_VALUE;
    private static final Due t = new Due();

    private interface Call {
        long on(DoorsForThree x);
    }

    private interface Start {
        DoorsForThree make();
    }

    private interface View {
        void look(DoorsForThree x, List<Long> seen);
    }

    private record Refused(String name, long answer, Call call) { }

    private static final List<Refused> list = new ArrayList<>();

    private static void add(String name, long answer, Call call) {
        list.add(new Refused(name, answer, call));
    }

    private static void bad(String name, Call call) {
        add(name, -1, call);
    }

    private static void asks(String name, Call call) {
        add(name, ANY, call);
    }

    public static void main(String[] args) {
        t.says("What is answered so changes nothing.");
        wrongNumbers();
        wrongRows();
        questions();
        all("an empty state", DoorsForThree::new);
        all("a lively state", RefusedTest::lively);
        all("a full state", RefusedTest::full);
        list.clear();
        emptyOnly();
        all("an empty state", DoorsForThree::new);
        list.clear();
        livelyOnly();
        all("a lively state", RefusedTest::lively);
        list.clear();
        fullOnly();
        all("a full state", RefusedTest::full);
        t.end();
    }

    /** Five DOORS, three CHILDREN, SHELVES 0 a ROW of bytes, 1 of shorts, 2 a DOOR, 3 of longs, 4 nothing, 5 an empty ROW. */
    private static DoorsForThree lively() {
        DoorsForThree x = new DoorsForThree();
        Due.doors(x, 9, 0, 1, 3, 1, 4, 24, 2, 2, 3, 0, 9, 12, 1, 1);
        Due.children(x, 9, 0, 12, 1, 9, 2);
        Due.awayFrom(x, 1, 8, 13);
        Due.law(x, "d=24?s*2+w;s*4+w*a-n-k");
        for (char c : "s+w*a".toCharArray()) {
            x.feed(c);
        }
        for (int kind = 0; kind < 8; kind++) {
            x.body(kind);
        }
        Due.bytes(x, 0, 2, 1, 0, 1, 4, 3);
        x.row(1, 1, 4);
        x.put(1, 2, -7);
        x.keep(2, 5);
        x.row(3, 3, 2);
        x.put(3, 1, Long.MAX_VALUE);
        x.row(5, 0, 0);
        for (int i = 0; i < 5; i++) {
            x.day();
        }
        x.open(0, 1);
        x.open(2, 2);
        x.image();
        x.day();
        x.open(1, 3);
        x.mend(0, 8, 1);
        x.mend(0, 9, 2);
        x.mend(2, 5, 3);
        x.undo();
        x.undo();
        x.act(7, 3, 4);
        return x;
    }

    private static DoorsForThree full() {
        DoorsForThree x = new DoorsForThree();
        for (int i = 0; i < 12; i++) {
            x.door(1 + 7 * i % 24, i % 8);
        }
        for (int i = 0; i < 5; i++) {
            x.child(18 - i, i);
        }
        for (int i = 0; i < 42; i++) {
            x.mend(i % 12, 2, 2 + i % 8);
        }
        for (int i = 0; i < 50; i++) {
            x.body(i % 8);
        }
        for (int i = 0; i < 24; i++) {
            x.day();
        }
        Due.bytes(x, 0, 5, 5, 5);
        x.row(1, 1, 60);
        x.keep(2, 49);
        x.row(3, 3, 60);
        x.row(5, 0, 60);
        x.open(4, 11);
        x.image();
        x.open(0, 0);
        x.act(7, 3, 4);
        for (int i = 0; i < 120; i++) {
            x.feed(i % 2 == 0 ? 's' : i == 119 ? 'w' : '+');
        }
        return x;
    }

    private static void wrongNumbers() {
        int[][] days = {{0, 0}, {25, 0}, {-1, 0}, {1, -1}, {1, 8}, {MIN, MAX}};
        for (int[] d : days) {
            bad("door(" + d[0] + ", " + d[1] + ")", x -> x.door(d[0], d[1]));
        }
        int[][] ages = {{0, 0}, {19, 0}, {-1, 0}, {1, -1}, {1, 8}, {MIN, MAX}};
        for (int[] a : ages) {
            bad("child(" + a[0] + ", " + a[1] + ")", x -> x.child(a[0], a[1]));
        }
        int[][] mends = {{0, 0, 0}, {0, 0, 25}, {0, 1, -1}, {0, 1, 8}, {0, 2, 0}, {0, 2, 10}, {0, 3, 0}, {0, 3, 19}, {0, 4, -1}, {0, 4, 8},
            {0, 5, -1}, {0, 5, 10}, {0, 6, -1}, {0, 6, 25}, {0, 7, -1}, {0, 7, 25}, {0, 8, -1}, {0, 8, 2}, {0, 9, -1}, {0, 9, 10},
            {12, 0, 7}, {-1, 0, 7}, {5, 3, 7}, {-1, 3, 7}, {1, 8, 1}, {-1, 8, 1}, {1, 9, 7}, {0, 10, 1}, {0, -1, 1}, {MIN, MIN, MIN}};
        for (int[] m : mends) {
            bad("mend(" + m[0] + ", " + m[1] + ", " + m[2] + ")", x -> x.mend(m[0], m[1], m[2]));
        }
        bad("feed(-1)", x -> x.feed(-1));
        bad("feed(256)", x -> x.feed(256));
        bad("open(5, 0)", x -> x.open(5, 0));
        bad("open(-1, 0)", x -> x.open(-1, 0));
        bad("open(0, 12)", x -> x.open(0, 12));
        bad("open(0, -1)", x -> x.open(0, -1));
        bad("body(-1)", x -> x.body(-1));
        bad("body(8)", x -> x.body(8));
    }

    private static void wrongRows() {
        int[] shelves = {-1, 6, MIN, MAX};
        for (int s : shelves) {
            bad("doors(" + s + ", 0, 1)", x -> x.doors(s, 0, 1));
            bad("keep(" + s + ", -1)", x -> x.keep(s, -1));
            bad("row(" + s + ", 0, 1)", x -> x.row(s, 0, 1));
            bad("put(" + s + ", 0, 1)", x -> x.put(s, 0, 1));
            bad("shift(" + s + ", 0, 0, 0, 1)", x -> x.shift(s, 0, 0, 0, 1));
            bad("shift(0, 0, " + s + ", 0, 1)", x -> x.shift(0, 0, s, 0, 1));
            bad("judge(" + s + ", 0)", x -> x.judge(s, 0));
        }
        bad("doors(0, 0, 0)", x -> x.doors(0, 0, 0));
        bad("doors(0, 0, 13)", x -> x.doors(0, 0, 13));
        bad("keep(0, 50)", x -> x.keep(0, 50));
        bad("keep(0, -2)", x -> x.keep(0, -2));
        for (int shelf = 0; shelf < 6; shelf++) {
            int s = shelf;
            bad("row(" + s + ", 5, 1)", x -> x.row(s, 5, 1));
            bad("row(" + s + ", -1, 1)", x -> x.row(s, -1, 1));
            bad("row(" + s + ", 0, 61)", x -> x.row(s, 0, 61));
            add("row(" + s + ", 0, -1)", -14, x -> x.row(s, 0, -1));
            add("row(" + s + ", 4, MIN)", -14, x -> x.row(s, 4, MIN));
        }
    }

    private static void questions() {
        asks("of(0, 0)", x -> x.of(0, 0));
        asks("worth(1, 103)", x -> x.worth(1, 103));
        asks("whose(203)", x -> x.whose(203));
        asks("all(32)", x -> x.all(32));
        asks("giving(3, 2)", x -> x.giving(3, 2));
        asks("bestRule(0)", x -> x.bestRule(0));
        asks("fairest(-1)", x -> x.fairest(-1));
        asks("fairest(1)", x -> x.fairest(1));
        asks("envyFree()", DoorsForThree::envyFree);
        asks("swap(2)", x -> x.swap(2));
        asks("swaps(0, 0)", x -> x.swaps(0, 0));
        asks("swaps(0, 1)", x -> x.swaps(0, 1));
        asks("big(0, -1)", x -> x.big(0, -1));
        asks("big(4, 0)", x -> x.big(4, 0));
        asks("away(1, 0)", x -> x.away(1, 0));
        asks("away(1, 2)", x -> x.away(1, 2));
        asks("gather(1, 0)", x -> x.gather(1, 0));
        asks("gather(21, 3)", x -> x.gather(21, 3));
        asks("waits(1, 1)", x -> x.waits(1, 1));
        asks("atFive(0, 2, 0, 1)", x -> x.atFive(0, 2, 0, 1));
        asks("atFive(0, 2, 0, 2)", x -> x.atFive(0, 2, 0, 2));
        asks("guard(0, 2, 0, 0)", x -> x.guard(0, 2, 0, 0));
        asks("judge(0, 0)", x -> x.judge(0, 0));
        asks("byWhat(0)", x -> x.byWhat(0));
        asks("second(0, 9)", x -> x.second(0, 9));
        asks("second(4, 1)", x -> x.second(4, 1));
        asks("pairs(0, 0)", x -> x.pairs(0, 0));
        asks("drawn(5, 9, -1)", x -> x.drawn(5, 9, -1));
        asks("drawn(5, 9, 0)", x -> x.drawn(5, 9, 0));
        asks("forgotten()", DoorsForThree::forgotten);
        asks("led(2)", x -> x.led(2));
        asks("trace(0)", x -> x.trace(0));
        asks("element(0, 0)", x -> x.element(0, 0));
        asks("taken(2, 0)", x -> x.taken(2, 0));
        asks("count(5)", x -> x.count(5));
    }

    private static void emptyOnly() {
        add("undo()", -5, DoorsForThree::undo);
        add("redo()", -5, DoorsForThree::redo);
        add("back()", -5, DoorsForThree::back);
        add("act(0, 0, 0)", 0, x -> x.act(0, 0, 0));
        bad("mend(0, 0, 1)", x -> x.mend(0, 0, 1));
        bad("mend(0, 3, 1)", x -> x.mend(0, 3, 1));
        bad("open(0, 0)", x -> x.open(0, 0));
        bad("keep(0, 0)", x -> x.keep(0, 0));
        add("doors(0, 0, 1)", 0, x -> x.doors(0, 0, 1));
        add("put(0, 0, 1)", -11, x -> x.put(0, 0, 1));
        add("shift(0, 0, 1, 0, 0)", -11, x -> x.shift(0, 0, 1, 0, 0));
        add("taken(0, 0)", -11, x -> x.taken(0, 0));
        add("mend(0, 8, 0), the same", 0, x -> x.mend(0, 8, 0));
        add("law() of nothing", -100, DoorsForThree::law);
    }

    private static void livelyOnly() {
        bad("mend(5, 0, 9)", x -> x.mend(5, 0, 9));
        bad("mend(3, 3, 9)", x -> x.mend(3, 3, 9));
        add("mend(0, 0, 9), the same", 9, x -> x.mend(0, 0, 9));
        add("mend(1, 7, 13), the same", 13, x -> x.mend(1, 7, 13));
        add("open(0, 1) of an open one", -5, x -> x.open(0, 1));
        add("open(1, 2) of an open one", -5, x -> x.open(1, 2));
        bad("open(3, 0)", x -> x.open(3, 0));
        bad("open(0, 5)", x -> x.open(0, 5));
        bad("keep(4, 8)", x -> x.keep(4, 8));
        add("doors of a missing ROW", 0, x -> x.doors(4, 0, 3));
        add("doors of an empty ROW", 0, x -> x.doors(5, 0, 3));
        add("doors of a ROW with SIZE 0", 0, x -> x.doors(0, 0, 3));
        add("doors of a ROW's end", 0, x -> x.doors(0, 4, 3));
        add("doors from below", 0, x -> x.doors(0, -1, 3));
        add("doors of shorts", -12, x -> x.doors(1, 0, 3));
        add("doors of a DOOR", -12, x -> x.doors(2, 0, 3));
        add("put on nothing", -11, x -> x.put(4, 0, 1));
        add("put on a DOOR", -12, x -> x.put(2, 0, 1));
        add("put below", -13, x -> x.put(0, -1, 1));
        add("put behind", -13, x -> x.put(0, 6, 1));
        add("put behind an empty ROW", -13, x -> x.put(5, 0, 1));
        add("shift of nothing", -11, x -> x.shift(4, 0, 0, 0, 1));
        add("shift to nothing", -11, x -> x.shift(0, 0, 4, 0, 1));
        add("shift of a DOOR", -12, x -> x.shift(2, 0, 0, 0, 1));
        add("shift to a DOOR", -12, x -> x.shift(0, 0, 2, 0, 1));
        add("shift to another sort", -12, x -> x.shift(0, 0, 1, 0, 1));
        add("shift from behind", -13, x -> x.shift(0, 5, 0, 0, 2));
        add("shift to behind", -13, x -> x.shift(0, 0, 0, 5, 2));
        add("shift to an empty one", -13, x -> x.shift(0, 0, 5, 0, 1));
        add("shift of less than none", -13, x -> x.shift(0, 0, 0, 0, -1));
        add("shift of none from behind", -13, x -> x.shift(0, 7, 0, 0, 0));
        add("shift of none", 0, x -> x.shift(0, 6, 0, 6, 0));
        add("shift in place", 6, x -> x.shift(0, 0, 0, 0, 6));
        add("taken of another KIND", -12, x -> x.taken(2, 1));
        bad("whose(500)", x -> x.whose(500));
        bad("trace(14)", x -> x.trace(14));
    }

    private static void fullOnly() {
        add("door(1, 1)", -3, x -> x.door(1, 1));
        add("child(1, 1)", -3, x -> x.child(1, 1));
        add("feed('s')", -3, x -> x.feed('s'));
        add("body(1)", -3, x -> x.body(1));
        add("day()", -5, DoorsForThree::day);
        add("redo()", -5, DoorsForThree::redo);
        add("doors(0, 0, 1)", 0, x -> x.doors(0, 0, 1));
        add("doors(5, 0, 1)", 0, x -> x.doors(5, 0, 1));
        add("open(0, 11)", -5, x -> x.open(0, 11));
        add("fairest(-1)", -5, x -> x.fairest(-1));
        add("envyFree()", -5, DoorsForThree::envyFree);
        bad("fairest(12)", x -> x.fairest(12));
        add("put(1, 60, 1)", -13, x -> x.put(1, 60, 1));
        add("shift of 61", -13, x -> x.shift(1, 0, 1, 0, 61));
    }

    private static void all(String state, Start start) {
        List<View> views = List.of(RefusedTest::numbers, RefusedTest::givings, RefusedTest::signs, RefusedTest::cellsAhead,
                RefusedTest::cellsBehind, RefusedTest::undone, RefusedTest::doneAgain, RefusedTest::laidBack, RefusedTest::comeNext);
        for (int v = 0; v < views.size(); v++) {
            List<Long> due = new ArrayList<>();
            views.get(v).look(start.make(), due);
            for (Refused refused : list) {
                DoorsForThree x = start.make();
                long answer = refused.call.on(x);
                if (refused.answer != ANY) {
                    t.edge(refused.name + " in " + state, answer, refused.answer);
                }
                List<Long> seen = new ArrayList<>();
                views.get(v).look(x, seen);
                t.edge(refused.name + " in " + state + ", then view " + v + " is as without it", seen.equals(due));
            }
        }
    }

    private static void see(List<Long> seen, long... answers) {
        Arrays.stream(answers).forEach(seen::add);
    }

    private static void numbers(DoorsForThree x, List<Long> seen) {
        for (int what = 0; what <= 10; what++) {
            for (int number = 0; number < 12; number++) {
                see(seen, x.of(number, what));
            }
        }
        for (int i = 0; i < 24; i++) {
            see(seen, x.trace(i));
        }
        for (int what = 0; what <= 5; what++) {
            see(seen, x.count(what), x.led(what));
        }
        see(seen, x.forgotten());
    }

    private static void givings(DoorsForThree x, List<Long> seen) {
        for (int rule = 0; rule < 5; rule++) {
            for (int door = 0; door < 12; door++) {
                see(seen, x.whose(100 * rule + door));
            }
            for (int child = 0; child < 5; child++) {
                see(seen, x.all(10 * rule + child), x.big(rule, child), x.gather(10 * rule + child, 2));
            }
            see(seen, x.giving(rule, 0), x.giving(rule, 1), x.giving(rule, 2), x.swap(rule), x.swaps(rule, 0), x.swaps(rule, 1));
        }
        for (int door = -2; door < 12; door++) {
            see(seen, x.fairest(door));
        }
        for (int child = 0; child < 5; child++) {
            for (int door = 0; door < 12; door++) {
                see(seen, x.worth(child, 100 * door + child));
            }
        }
        see(seen, x.envyFree(), x.bestRule(0), x.bestRule(1));
    }

    private static void signs(DoorsForThree x, List<Long> seen) {
        for (int rule = 0; rule < 5; rule++) {
            for (int child = 0; child < 5; child++) {
                int rc = 10 * rule + child;
                see(seen, x.away(rc, 0), x.away(rc, 1), x.away(rc, 2), x.waits(rc, 0), x.waits(rc, 1), x.gather(rc, 0));
            }
            see(seen, x.atFive(0, 8, rule, 0), x.atFive(0, 8, rule, 1), x.atFive(0, 3, rule, 2), x.guard(0, 8, rule, 0));
            see(seen, x.judge(0, rule), x.second(rule, 3), x.pairs(rule, 0), x.pairs(rule, 1));
        }
        for (int shelf = 0; shelf < 6; shelf++) {
            see(seen, x.byWhat(shelf), x.guard(shelf, 2, 1, 1));
        }
        see(seen, x.drawn(3, 9, -1), x.drawn(3, 9, 0), x.drawn(3, 50, 2));
    }

    private static void cellsAhead(DoorsForThree x, List<Long> seen) {
        cells(x, seen, 0);
    }

    private static void cellsBehind(DoorsForThree x, List<Long> seen) {
        cells(x, seen, 3);
    }

    private static void cells(DoorsForThree x, List<Long> seen, int first) {
        for (int shelf = first; shelf < first + 3; shelf++) {
            for (int i = 0; i < 60; i++) {
                see(seen, x.element(shelf, i));
            }
            for (int k = 0; k < 8; k++) {
                see(seen, x.taken(shelf, k));
            }
        }
    }

    private static void undone(DoorsForThree x, List<Long> seen) {
        for (int i = 0; i < 41; i++) {
            see(seen, x.undo(), x.of((53 - i) % 12, 2));
            if (i < 8) {
                see(seen, x.count(3), x.of(0, 9), x.of(2, 5), x.of(1, 6), x.of(1, 7));
            }
        }
        for (int i = 0; i < 4; i++) {
            see(seen, x.redo());
        }
    }

    private static void doneAgain(DoorsForThree x, List<Long> seen) {
        for (int i = 0; i < 3; i++) {
            see(seen, x.redo(), x.count(3), x.of(0, 9), x.of(2, 5));
        }
    }

    private static void laidBack(DoorsForThree x, List<Long> seen) {
        see(seen, x.back(), x.led(0), x.led(1), x.led(2), x.led(3), x.forgotten());
        for (int door = 0; door < 12; door++) {
            see(seen, x.of(door, 10));
        }
    }

    private static void comeNext(DoorsForThree x, List<Long> seen) {
        see(seen, x.feed('s'), x.law(), x.worth(0, 0), x.worth(2, 103), x.body(3), x.door(2, 2), x.child(2, 2), x.day(), x.image());
        see(seen, x.open(0, 0), x.open(1, 1), x.led(2), x.act(3, 1, 5), x.trace(0), x.row(0, 0, 3), x.put(0, 1, 4), x.element(0, 1));
    }
}
