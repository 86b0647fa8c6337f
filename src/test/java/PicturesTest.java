/** Promises 37 to 39: bodies, acts, the trace. */
public final class PicturesTest {
    private static final Due t = new Due();

    public static void main(String[] args) {
        promise37();
        promise38();
        promise38Wraps();
        promise39();
        t.end();
    }

    private static void promise37() {
        DoorsForThree x = new DoorsForThree();
        t.due("37: KIND -1", x.body(-1), -1);
        t.due("37: KIND 8", x.body(8), -1);
        for (int i = 0; i < 50; i++) {
            t.due("37: its number", x.body(i % 8), i);
        }
        t.due("37: FULL", x.body(0), -3);
        t.due("37: BAD ahead of FULL", x.body(8), -1);
        t.due("37: fifty", x.count(4), 50);
        t.due("37: n is the number", x.act(48, 0, 0), 48);
    }

    private static void acts(DoorsForThree x, int body, int act, int x5, int... trace) {
        String call = "38: body " + body + ", act " + act;
        t.due(call, x.act(body, act, 5), x5);
        t.due(call + ": all that ran", x.count(5), trace.length);
        for (int i = 0; i < trace.length; i++) {
            t.due(call + ": trace(" + i + ")", x.trace(i), trace[i]);
        }
        t.due(call + ": no more", x.trace(trace.length), -1);
    }

    /** Body n is of KIND n. */
    private static DoorsForThree eight() {
        DoorsForThree x = new DoorsForThree();
        for (int kind = 0; kind < 8; kind++) {
            x.body(kind);
        }
        return x;
    }

    private static void promise38() {
        DoorsForThree x = eight();
        acts(x, 0, 0, 5, 1);
        acts(x, 0, 1, 10, 10, 1);
        acts(x, 0, 2, 5, 11);
        acts(x, 0, 3, 10 - 1, 2, 10, 1, 11);
        acts(x, 1, 0, 9, 20, 1);
        acts(x, 1, 1, 18, 10, 20, 1);
        acts(x, 1, 2, 4, 11);
        acts(x, 1, 3, 18 - 0, 2, 10, 20, 1, 11);
        acts(x, 2, 0, 7, 1);
        acts(x, 2, 1, -14, 30, 10, 1);
        acts(x, 2, 2, 7, 11);
        acts(x, 2, 3, -14 - 3, 2, 30, 10, 1, 11);
        acts(x, 3, 0, 8, 1);
        acts(x, 3, 1, -18, 41, 30, 10, 1);
        acts(x, 3, 2, 18, 40, 11);
        acts(x, 3, 3, -18 - 6, 2, 41, 30, 10, 1, 40, 11);
        acts(x, 4, 0, 12, 20, 1);
        acts(x, 4, 1, 24, 10, 20, 1);
        acts(x, 4, 2, 1 - 9, 50, 11, 20, 1);
        acts(x, 4, 3, 24 + 4, 2, 10, 20, 1, 50, 11, 20, 1);
        acts(x, 5, 0, 10, 1);
        acts(x, 5, 1, -22, 41, 30, 10, 1);
        acts(x, 5, 2, 0, 40, 11);
        acts(x, 5, 3, -37, 60, 2, 41, 30, 10, 1, 40, 11);
        acts(x, 6, 0, 22, 70, 1);
        acts(x, 6, 1, 44, 10, 70, 1);
        acts(x, 6, 2, 3, 11);
        acts(x, 6, 3, 44 - 7, 2, 10, 70, 1, 11);
        acts(x, 7, 0, 15, 20, 1);
        acts(x, 7, 1, 30 - 7, 80, 10, 20, 1, 50, 11, 20, 1);
        acts(x, 7, 2, 2 - 12, 50, 11, 20, 1);
        acts(x, 7, 3, 23 + 6 - 1, 81, 2, 80, 10, 20, 1, 50, 11, 20, 1, 50, 11, 20, 1);
        int[][] none = {{8, 0}, {-1, 0}, {0, 4}, {0, -1}, {50, 3}};
        for (int[] no : none) {
            x.act(7, 3, 5);
            t.due("38: no body " + no[0] + " or act " + no[1], x.act(no[0], no[1], 5), 0);
            t.due("38: no TRACE then", x.trace(0), -1);
            t.due("38: none ran", x.count(5), 0);
        }
    }

    private static void promise38Wraps() {
        DoorsForThree x = eight();
        t.due("38: x + n wraps", x.act(1, 0, Integer.MAX_VALUE), Integer.MIN_VALUE + 3);
        t.due("38: twice wraps", x.act(0, 1, 1 << 30), Integer.MIN_VALUE);
        t.due("38: less the least", x.act(2, 1, (1 << 30) - 2), Integer.MIN_VALUE);
        t.due("38: x + 1 wraps", x.act(3, 1, Integer.MAX_VALUE), -6);
    }

    private static void promise39() {
        DoorsForThree x = eight();
        t.due("39: no act yet", x.trace(0), -1);
        x.act(7, 3, 0);
        t.due("39: the first", x.trace(0), 81);
        t.due("39: the last", x.trace(13), 1);
        t.due("39: behind it", x.trace(14), -1);
        t.due("39: -1", x.trace(-1), -1);
        t.due("39: 24", x.trace(24), -1);
        x.act(0, 0, 0);
        t.due("39: the latest act's", x.trace(0), 1);
        t.due("39: no longer the one before", x.trace(1), -1);
    }
}
