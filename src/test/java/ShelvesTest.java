/** Promises 40 to 46: shelves, rows, what is taken, counts. */
public final class ShelvesTest {
    private static final Due t = new Due();

    public static void main(String[] args) {
        promise40();
        promise41();
        promise42And43();
        promise44();
        promise44Refused();
        promise45();
        promise46();
        t.end();
    }

    private static void promise40() {
        DoorsForThree x = new DoorsForThree();
        t.due("40: no BODY yet", x.keep(0, 0), -1);
        t.due("40: nothing", x.keep(0, -1), 1);
        x.body(4);
        t.due("40: a DOOR", x.keep(5, 0), 1);
        t.due("40: it is there", x.taken(5, 0), 4);
        t.due("40: nothing again", x.keep(5, -1), 1);
        t.due("40: nothing is there", x.taken(5, 0), -11);
        t.due("40: SHELF 6", x.keep(6, 0), -1);
        t.due("40: SHELF -1", x.keep(-1, -1), -1);
        t.due("40: BODY 1", x.keep(0, 1), -1);
        t.due("40: BODY -2", x.keep(0, -2), -1);
        x.row(0, 0, 3);
        x.keep(0, 0);
        t.due("40: in a ROW's place", x.element(0, 0), Long.MIN_VALUE);
        t.due("40: it is no ROW", x.put(0, 0, 1), -12);
    }

    private static void promise41() {
        DoorsForThree x = new DoorsForThree();
        for (int sort = 0; sort < 5; sort++) {
            t.due("41: of 60", x.row(sort, sort, 60), 1);
            t.due("41: 0 at first", x.element(sort, 59), 0);
        }
        t.due("41: of none", x.row(5, 0, 0), 1);
        t.due("41: no place there", x.put(5, 0, 0), -13);
        t.due("41: sort 5", x.row(0, 5, 1), -1);
        t.due("41: sort -1", x.row(0, -1, 1), -1);
        t.due("41: 61", x.row(0, 0, 61), -1);
        t.due("41: SHELF 6", x.row(6, 0, 1), -1);
        t.due("41: below 0", x.row(0, 0, -1), -14);
        t.due("41: BAD ahead of -14", x.row(0, 5, -1), -1);
        t.due("41: what was there stays", x.put(0, 59, 7), 1);
        x.row(0, 0, 60);
        t.due("41: a new ROW", x.element(0, 59), 0);
        x.row(0, 3, 2);
        t.due("41: shorter", x.put(0, 2, 7), -13);
    }

    private static void promise42And43() {
        DoorsForThree x = new DoorsForThree();
        long[] given = {0x1122334455667788L, -1L, 128L, 32768L, 1L << 31, 1L << 32, Long.MIN_VALUE, 0L, 256L};
        for (int sort = 0; sort < 5; sort++) {
            x.row(sort, sort, 3);
            for (long v : given) {
                long want = sort == 0 ? (byte) v : sort == 1 ? (short) v : sort == 2 ? (int) v : sort == 3 ? v : v != 0 ? 1 : 0;
                t.due("42: put " + v + " in sort " + sort, x.put(sort, 1, v), 1);
                t.due("43: element of sort " + sort, x.element(sort, 1), want);
                t.due("43: its neighbour", x.element(sort, 2), 0);
            }
        }
        t.due("42: place -1", x.put(0, -1, 1), -13);
        t.due("42: place 3", x.put(0, 3, 1), -13);
        t.due("42: nothing there", x.put(5, 0, 1), -11);
        t.due("42: SHELF 6", x.put(6, 0, 1), -1);
        t.due("42: SHELF -1", x.put(-1, 0, 1), -1);
        x.body(0);
        x.keep(5, 0);
        t.due("42: a BODY, wherever", x.put(5, 99, 1), -12);
        t.due("43: place -1", x.element(0, -1), Long.MIN_VALUE);
        t.due("43: place 3", x.element(0, 3), Long.MIN_VALUE);
        t.due("43: a BODY", x.element(5, 0), Long.MIN_VALUE);
        t.due("43: SHELF 6", x.element(6, 0), Long.MIN_VALUE);
        t.due("43: SHELF -1", x.element(-1, 0), Long.MIN_VALUE);
        x.keep(5, -1);
        t.due("43: nothing there", x.element(5, 0), Long.MIN_VALUE);
    }

    private static void isRow(DoorsForThree x, String call, int... values) {
        for (int i = 0; i < values.length; i++) {
            t.due(call + ", element " + i, x.element(0, i), values[i]);
        }
    }

    private static void promise44() {
        DoorsForThree x = new DoorsForThree();
        Due.bytes(x, 0, 1, 2, 3, 4, 5);
        Due.bytes(x, 1, 7, 8, 9);
        t.due("44: to another", x.shift(1, 1, 0, 3, 2), 2);
        isRow(x, "44: to another", 1, 2, 3, 8, 9);
        t.due("44: up in the same", x.shift(0, 0, 0, 1, 4), 4);
        isRow(x, "44: as they all were before", 1, 1, 2, 3, 8);
        t.due("44: down in the same", x.shift(0, 2, 0, 0, 3), 3);
        isRow(x, "44: as they were before too", 2, 3, 8, 3, 8);
        t.due("44: none at the end", x.shift(0, 5, 1, 3, 0), 0);
        t.due("44: all", x.shift(1, 0, 0, 0, 3), 3);
        isRow(x, "44: all", 7, 8, 9, 3, 8);
        x.row(2, 3, 2);
        x.row(3, 3, 2);
        x.put(2, 0, Long.MAX_VALUE);
        t.due("44: longs", x.shift(2, 0, 3, 1, 1), 1);
        t.due("44: they are whole", x.element(3, 1), Long.MAX_VALUE);
    }

    private static void promise44Refused() {
        DoorsForThree x = new DoorsForThree();
        Due.bytes(x, 0, 1, 2, 3);
        Due.bytes(x, 1, 7, 8);
        x.row(2, 4, 3);
        x.body(0);
        x.keep(3, 0);
        t.due("44: SHELF 6", x.shift(6, 0, 0, 0, 1), -1);
        t.due("44: other -1", x.shift(0, 0, -1, 0, 1), -1);
        t.due("44: BAD ahead of -11", x.shift(4, 0, 6, 0, 1), -1);
        t.due("44: nothing on the first", x.shift(4, 0, 0, 0, 1), -11);
        t.due("44: nothing on the other", x.shift(0, 0, 4, 0, 1), -11);
        t.due("44: -11 ahead of -12", x.shift(3, 0, 4, 0, 1), -11);
        t.due("44: a BODY", x.shift(3, 0, 0, 0, 1), -12);
        t.due("44: the other a BODY", x.shift(0, 0, 3, 0, 1), -12);
        t.due("44: two BODIES", x.shift(3, 0, 3, 0, 0), -12);
        t.due("44: bytes and booleans", x.shift(0, 0, 2, 0, 1), -12);
        t.due("44: -12 ahead of -13", x.shift(0, 9, 2, 0, 1), -12);
        t.due("44: beyond the first", x.shift(0, 2, 1, 0, 2), -13);
        t.due("44: beyond the other", x.shift(0, 0, 1, 1, 2), -13);
        t.due("44: none beyond the first", x.shift(0, 4, 1, 0, 0), -13);
        t.due("44: none beyond the other", x.shift(0, 0, 1, 3, 0), -13);
        t.due("44: place -1", x.shift(0, -1, 1, 0, 1), -13);
        t.due("44: other place -1", x.shift(0, 0, 1, -1, 1), -13);
        t.due("44: fewer than none", x.shift(0, 0, 1, 0, -1), -13);
        t.due("44: far beyond", x.shift(0, Integer.MAX_VALUE, 1, 0, Integer.MAX_VALUE), -13);
        t.due("44: far below", x.shift(0, 1, 1, 1, Integer.MIN_VALUE), -13);
        isRow(x, "44: nothing came", 1, 2, 3);
        t.due("44: nor there", x.element(1, 0), 7);
    }

    private static void promise45() {
        int[] above = {-1, 0, 0, 2, 1, 3, 0, 4};
        DoorsForThree x = new DoorsForThree();
        for (int kind = 0; kind < 8; kind++) {
            x.body(kind);
            x.keep(0, kind);
            boolean[] under = new boolean[8];
            for (int k = kind; k >= 0; k = above[k]) {
                under[k] = true;
            }
            for (int k = 0; k < 8; k++) {
                t.due("45: KIND " + kind + " taken for " + k, x.taken(0, k), under[k] ? kind : -12);
            }
        }
        t.due("45: KIND 8", x.taken(0, 8), -1);
        t.due("45: KIND -1", x.taken(0, -1), -1);
        t.due("45: SHELF 6", x.taken(6, 0), -1);
        t.due("45: SHELF -1", x.taken(-1, 0), -1);
        t.due("45: nothing there", x.taken(1, 0), -11);
        t.due("45: BAD ahead of -11", x.taken(1, 8), -1);
        x.row(1, 0, 3);
        t.due("45: a ROW", x.taken(1, 0), -12);
    }

    private static void promise46() {
        DoorsForThree x = new DoorsForThree();
        x.door(1, 1);
        x.door(2, 1);
        x.child(9, 1);
        x.feed(1);
        x.feed(1);
        x.feed(1);
        for (int i = 1; i <= 4; i++) {
            x.mend(0, 9, i + 1);
        }
        for (int i = 0; i < 5; i++) {
            x.body(7);
        }
        x.act(0, 1, 0);
        int[] many = {2, 1, 3, 4, 5, 8};
        for (int what = 0; what < 6; what++) {
            t.due("46: count(" + what + ")", x.count(what), many[what]);
        }
        t.due("46: what 6", x.count(6), -1);
        t.due("46: what -1", x.count(-1), -1);
        x.undo();
        t.due("46: that may be UNDONE", x.count(3), 3);
    }
}
