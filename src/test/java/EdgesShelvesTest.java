/** Section 5 of the document, the shelves, and promises 37 to 46, each sentence that names an edge: bodies, acts, the trace, rows. */
public final class EdgesShelvesTest {
    private static final int MIN = Integer.MIN_VALUE, MAX = Integer.MAX_VALUE;
    private static final long NO_ELEMENT = Long.MIN_VALUE;
    /** The KIND above each one, as the document tells. */
    private static final int[] ABOVE = {-1, 0, 0, 2, 1, 3, 0, 4};
    private static final Due t = new Due();

    public static void main(String[] args) {
        bodiesFifty();
        bodyKinds();
        opensOfEachKind();
        givesOfEachKind();
        waitsOfEachKind();
        tellsOfEachKind();
        actsWrap();
        actNumber();
        actNone();
        traceOfEachAct();
        tracePlaces();
        traceOfTheLatest();
        keepNumbers();
        keepInstead();
        rowSizes();
        rowSorts();
        rowZeroAtFirst();
        rowRefused();
        putLowestBits();
        putBooleans();
        putPlaces();
        putRefused();
        elementRefused();
        shiftPlaces();
        shiftNone();
        shiftWholeRow();
        shiftAsTheyWere();
        shiftSorts();
        shiftRefused();
        shiftGoesAhead();
        takenKinds();
        takenRefused();
        counts();
        t.end();
    }

    private static void bodiesFifty() {
        t.says("PICTURES' ways are kept by call as BODIES 0 .. 49");
        DoorsForThree x = new DoorsForThree();
        for (int i = 0; i < 50; i++) {
            t.edge("none such yet", x.keep(0, i), -1);
            t.edge("its number", x.body(i % 8), i);
            t.edge("so many", x.count(4), i + 1);
            t.edge("it can be kept", x.keep(0, i), 1);
        }
        t.says("A DOOR of a KIND (0 .. 7) is kept: its number. BAD, FULL.");
        t.edge("FULL", x.body(0), -3);
        t.edge("FULL again", x.body(7), -3);
        t.edge("BAD ahead of FULL", x.body(8), -1);
        t.edge("BAD ahead of FULL, below", x.body(-1), -1);
        t.edge("fifty", x.count(4), 50);
        t.edge("the last", x.act(49, 0, 0), 49 + 3);
        t.edge("no number 50", x.act(50, 0, 7), 0);
        t.edge("nor on a SHELF", x.keep(0, 50), -1);
    }

    private static void bodyKinds() {
        t.says("of KINDS: 0 DOOR; 1 STAR under DOOR; 2 BOOT under DOOR; 3 LAMP under BOOT; 4 SISTER under STAR; 5 DOG under LAMP; "
                + "6 EMPTY under DOOR; 7 AUNT under SISTER");
        DoorsForThree x = new DoorsForThree();
        int[] kinds = {-1, 8, MIN, MAX};
        for (int kind : kinds) {
            t.edge("body(" + kind + ")", x.body(kind), -1);
        }
        t.edge("none came", x.count(4), 0);
        t.edge("KIND 0", x.body(0), 0);
        t.edge("KIND 7", x.body(7), 1);
    }

    /** Body n is of KIND n. */
    private static DoorsForThree eight() {
        DoorsForThree x = new DoorsForThree();
        for (int kind = 0; kind < 8; kind++) {
            x.body(kind);
        }
        return x;
    }

    /** The acts once more, each by what its KIND's own bodies and those above say. */
    private static int opens(int kind, int n, int x) {
        switch (kind) {
            case 0: return x + n;
            case 1: return opens(0, n, x) + 3;
            case 6: return opens(0, n, x) * 2;
            default: return opens(ABOVE[kind], n, x);
        }
    }

    private static int gives(int kind, int n, int x, int self) {
        switch (kind) {
            case 0: return opens(self, n, x) * 2;
            case 2: return -gives(0, n, x, self);
            case 3: return gives(2, n, x + 1, self);
            case 7: return gives(4, n, x, self) + waits(self, n, 2, self);
            default: return gives(ABOVE[kind], n, x, self);
        }
    }

    private static int waits(int kind, int n, int x, int self) {
        switch (kind) {
            case 0: return x ^ n;
            case 3: return waits(2, n, x, self) * 3;
            case 4: return waits(1, n, x, self) - opens(self, n, 2);
            default: return waits(ABOVE[kind], n, x, self);
        }
    }

    private static int tells(int kind, int n, int x, int self) {
        switch (kind) {
            case 0: return gives(self, n, x, self) - waits(self, n, 1, self);
            case 5: return tells(3, n, x, self) ^ 5;
            case 7: return tells(4, n, x, self) - 1;
            default: return tells(ABOVE[kind], n, x, self);
        }
    }

    private static final int[] XS = {0, 1, -1, 2, 7, -100, 1 << 30, MAX, MAX - 1, MIN, MIN + 1};

    private static int due(int kind, int act, int n, int x) {
        switch (act) {
            case 0: return opens(kind, n, x);
            case 1: return gives(kind, n, x, kind);
            case 2: return waits(kind, n, x, kind);
            default: return tells(kind, n, x, kind);
        }
    }

    private static void each(int act) {
        DoorsForThree x = eight();
        for (int i = 8; i < 50; i++) {
            x.body(i % 8);
        }
        for (int body = 0; body < 50; body += body < 8 ? 1 : 7) {
            for (int v : XS) {
                t.edge("act(" + body + ", " + act + ", " + v + ")", x.act(body, act, v), due(body % 8, act, body, v));
            }
        }
    }

    private static void opensOfEachKind() {
        t.says("1 opens: x + n.");
        t.says("STAR: 20 opens: super.opens(x) + 3.");
        t.says("EMPTY: 70 opens: super.opens(x) * 2.");
        each(0);
    }

    private static void givesOfEachKind() {
        t.says("10 gives: opens(x) * 2.");
        t.says("BOOT: 30 gives: -super.gives(x).");
        t.says("41 gives: super.gives(x + 1).");
        t.says("AUNT: 80 gives: super.gives(x) + waits(2).");
        each(1);
    }

    private static void waitsOfEachKind() {
        t.says("11 waits: x ^ n.");
        t.says("LAMP: 40 waits: super.waits(x) * 3.");
        t.says("SISTER: 50 waits: super.waits(x) - opens(2).");
        each(2);
    }

    private static void tellsOfEachKind() {
        t.says("2 tells: gives(x) - waits(1).");
        t.says("DOG: 60 tells: super.tells(x) ^ 5.");
        t.says("81 tells: super.tells(x) - 1.");
        each(3);
    }

    private static void actsWrap() {
        t.says("ACTS with x (an int that wraps)");
        DoorsForThree x = eight();
        t.edge("x + n", x.act(1, 0, MAX), MIN + 3);
        t.edge("twice", x.act(0, 1, 1 << 30), MIN);
        t.edge("twice the greatest", x.act(0, 1, MAX), -2);
        t.edge("EMPTY: twice what is open", x.act(6, 0, MAX), 10);
        t.edge("BOOT: less the least", x.act(2, 1, (1 << 30) - 2), MIN);
        t.edge("LAMP: x + 1", x.act(3, 1, MAX), -6);
        t.edge("LAMP: three times", x.act(3, 2, MAX), 3 * (MAX ^ 3));
        t.edge("SISTER: less opens(2)", x.act(4, 2, MIN), (MIN ^ 4) - 9);
    }

    private static void actNumber() {
        t.says("n its number");
        DoorsForThree x = new DoorsForThree();
        for (int i = 0; i < 50; i++) {
            x.body(0);
            t.edge("opens of " + i, x.act(i, 0, 100), 100 + i);
            t.edge("waits of " + i, x.act(i, 2, 100), 100 ^ i);
        }
    }

    private static void actNone() {
        t.says("An ACT (0 .. 3) of a DOOR with x. 0, and no TRACE then: no such DOOR, ACT.");
        DoorsForThree x = eight();
        int[][] none = {{8, 0}, {-1, 0}, {50, 3}, {MIN, 1}, {MAX, 1}, {0, 4}, {0, -1}, {7, 4}, {7, MIN}, {7, MAX}, {8, 4}};
        for (int[] no : none) {
            t.edge("one that is", x.act(7, 3, 5) != 0);
            t.edge("so many ran", x.count(5), 14);
            t.edge("act(" + no[0] + ", " + no[1] + ", 5)", x.act(no[0], no[1], 5), 0);
            t.edge("none ran", x.count(5), 0);
            t.edge("no TRACE", x.trace(0), -1);
        }
        DoorsForThree y = new DoorsForThree();
        t.edge("no BODIES at all", y.act(0, 0, 5), 0);
    }

    private static void trace(DoorsForThree x, int body, int act, int... due) {
        x.act(body, act, 5);
        t.edge("body " + body + ", act " + act + ": how many ran", x.count(5), due.length);
        for (int i = 0; i < due.length; i++) {
            t.edge("body " + body + ", act " + act + ": trace(" + i + ")", x.trace(i), due[i]);
        }
        t.edge("body " + body + ", act " + act + ": behind the last", x.trace(due.length), -1);
        t.edge("body " + body + ", act " + act + ": -1", x.trace(-1), -1);
    }

    private static void traceOfEachAct() {
        t.says("THE TRACE: numbers of the bodies that ran in the latest act(), as they began; the first 24 are kept.");
        DoorsForThree x = eight();
        trace(x, 0, 0, 1);
        trace(x, 1, 0, 20, 1);
        trace(x, 2, 0, 1);
        trace(x, 3, 0, 1);
        trace(x, 4, 0, 20, 1);
        trace(x, 5, 0, 1);
        trace(x, 6, 0, 70, 1);
        trace(x, 7, 0, 20, 1);
        trace(x, 0, 1, 10, 1);
        trace(x, 1, 1, 10, 20, 1);
        trace(x, 2, 1, 30, 10, 1);
        trace(x, 3, 1, 41, 30, 10, 1);
        trace(x, 4, 1, 10, 20, 1);
        trace(x, 5, 1, 41, 30, 10, 1);
        trace(x, 6, 1, 10, 70, 1);
        trace(x, 7, 1, 80, 10, 20, 1, 50, 11, 20, 1);
        trace(x, 0, 2, 11);
        trace(x, 1, 2, 11);
        trace(x, 2, 2, 11);
        trace(x, 3, 2, 40, 11);
        trace(x, 4, 2, 50, 11, 20, 1);
        trace(x, 5, 2, 40, 11);
        trace(x, 6, 2, 11);
        trace(x, 7, 2, 50, 11, 20, 1);
        trace(x, 0, 3, 2, 10, 1, 11);
        trace(x, 1, 3, 2, 10, 20, 1, 11);
        trace(x, 2, 3, 2, 30, 10, 1, 11);
        trace(x, 3, 3, 2, 41, 30, 10, 1, 40, 11);
        trace(x, 4, 3, 2, 10, 20, 1, 50, 11, 20, 1);
        trace(x, 5, 3, 60, 2, 41, 30, 10, 1, 40, 11);
        trace(x, 6, 3, 2, 10, 70, 1, 11);
        trace(x, 7, 3, 81, 2, 80, 10, 20, 1, 50, 11, 20, 1, 50, 11, 20, 1);
    }

    private static void tracePlaces() {
        t.says("THE TRACE's i-th body. BAD.");
        DoorsForThree x = eight();
        t.edge("no act yet", x.trace(0), -1);
        x.act(7, 3, 0);
        t.edge("the first", x.trace(0), 81);
        t.edge("the last", x.trace(13), 1);
        int[] places = {14, 23, 24, 25, -1, MIN, MAX};
        for (int i : places) {
            t.edge("trace(" + i + ")", x.trace(i), -1);
        }
    }

    private static void traceOfTheLatest() {
        t.says("numbers of the bodies that ran in the latest act()");
        DoorsForThree x = eight();
        x.act(7, 3, 0);
        x.act(2, 2, 0);
        t.edge("one ran", x.count(5), 1);
        t.edge("it", x.trace(0), 11);
        t.edge("nothing is left of the one before", x.trace(1), -1);
        x.body(0);
        x.day();
        t.edge("other calls leave it", x.trace(0), 11);
        t.edge("other calls leave how many", x.count(5), 1);
    }

    private static void keepNumbers() {
        t.says("A SHELF holds nothing (body -1), or a DOOR: 1. BAD.");
        DoorsForThree x = new DoorsForThree();
        t.edge("no BODIES", x.keep(0, 0), -1);
        x.body(3);
        x.body(5);
        int[] bodies = {-2, 2, 50, MIN, MAX};
        int[] shelves = {-1, 6, MIN, MAX};
        for (int shelf = 0; shelf < 6; shelf++) {
            t.edge("nothing on " + shelf, x.keep(shelf, -1), 1);
            t.edge("it is nothing", x.taken(shelf, 0), -11);
            t.edge("the last DOOR on " + shelf, x.keep(shelf, 1), 1);
            t.edge("it is that", x.taken(shelf, 0), 5);
            for (int body : bodies) {
                t.edge("keep(" + shelf + ", " + body + ")", x.keep(shelf, body), -1);
            }
            t.edge("it is still that", x.taken(shelf, 0), 5);
        }
        for (int shelf : shelves) {
            t.edge("keep(" + shelf + ", 0)", x.keep(shelf, 0), -1);
            t.edge("keep(" + shelf + ", -1)", x.keep(shelf, -1), -1);
        }
    }

    private static void keepInstead() {
        t.says("SHELVES 0 .. 5 each hold nothing (at first), a DOOR (a BODY), or a ROW");
        DoorsForThree x = eight();
        Due.bytes(x, 0, 7, 8);
        x.keep(0, 4);
        t.edge("a DOOR in the ROW's place", x.taken(0, 0), 4);
        t.edge("no elements", x.put(0, 0, 1), -12);
        t.edge("one DOOR on two SHELVES", x.keep(1, 4), 1);
        t.edge("it is on both", x.taken(1, 4), 4);
        x.row(0, 0, 2);
        t.edge("a ROW in its place", x.taken(0, 0), -12);
        t.edge("nothing is left of the first ROW", x.element(0, 0), 0);
        x.keep(0, -1);
        t.edge("nothing in the ROW's place", x.taken(0, 0), -11);
        t.edge("no ROW", x.put(0, 0, 1), -11);
        t.edge("the other SHELF stays", x.taken(1, 1), 4);
    }

    private static void rowSizes() {
        t.says("of 0 .. 60 elements, 0 at first (false)");
        DoorsForThree x = new DoorsForThree();
        for (int n = 0; n <= 60; n++) {
            t.edge("row of " + n, x.row(5, 0, n), 1);
            t.edge("the place behind its last", x.put(5, n, 1), -13);
            t.edge("its last place", x.put(5, n - 1, 1), n == 0 ? -13 : 1);
        }
        t.says("A SHELF holds a ROW: 1. BAD (sort, n above 60); -14.");
        t.edge("61", x.row(5, 0, 61), -1);
        t.edge("far above", x.row(5, 0, MAX), -1);
        t.edge("-1", x.row(5, 0, -1), -14);
        t.edge("far below", x.row(5, 0, MIN), -14);
        t.edge("the ROW of 60 stays", x.element(5, 59), 1);
    }

    private static void rowSorts() {
        t.says("a ROW: of 0 bytes, 1 shorts, 2 ints, 3 longs, 4 booleans");
        DoorsForThree x = new DoorsForThree();
        for (int sort = 0; sort <= 4; sort++) {
            t.edge("sort " + sort, x.row(sort, sort, 60), 1);
        }
        int[] sorts = {-1, 5, MIN, MAX};
        for (int sort : sorts) {
            t.edge("sort " + sort, x.row(0, sort, 1), -1);
            t.edge("BAD ahead of -14: sort " + sort, x.row(0, sort, -1), -1);
        }
        int[] shelves = {-1, 6, MIN, MAX};
        for (int shelf : shelves) {
            t.edge("SHELF " + shelf, x.row(shelf, 0, 1), -1);
            t.edge("BAD ahead of -14: SHELF " + shelf, x.row(shelf, 0, -1), -1);
        }
        t.edge("what was there stays", x.put(0, 59, 1), 1);
    }

    private static void rowZeroAtFirst() {
        t.says("of 0 .. 60 elements, 0 at first (false)");
        DoorsForThree x = new DoorsForThree();
        for (int sort = 0; sort <= 4; sort++) {
            x.row(sort, sort, 60);
            for (int i = 0; i < 60; i += 59) {
                t.edge("sort " + sort + ", element " + i, x.element(sort, i), 0);
                x.put(sort, i, -1);
            }
            x.row(sort, sort, 60);
            t.edge("a new one, the first", x.element(sort, 0), 0);
            t.edge("a new one, the last", x.element(sort, 59), 0);
        }
    }

    private static void rowRefused() {
        t.says("What is answered so changes nothing.");
        DoorsForThree x = eight();
        x.keep(0, 3);
        Due.bytes(x, 1, 5, 6);
        for (int shelf = 0; shelf <= 2; shelf++) {
            x.row(shelf, 0, -1);
            x.row(shelf, 0, 61);
            x.row(shelf, 5, 1);
        }
        t.edge("the DOOR stays", x.taken(0, 0), 3);
        t.edge("the ROW stays", x.element(1, 1), 6);
        t.edge("nothing stays nothing", x.taken(2, 0), -11);
    }

    private static void putLowestBits() {
        t.says("what is put in keeps its lowest bits");
        DoorsForThree x = new DoorsForThree();
        long[] given = {0, 1, -1, 127, 128, 129, 255, 256, -128, -129, 32767, 32768, 65535, 65536, -32768, -32769, MAX, MAX + 1L,
            0xffffffffL, 1L << 32, MIN, MIN - 1L, Long.MAX_VALUE, Long.MIN_VALUE + 1, 0x1122334455667788L, 0x7f7f808080808080L};
        for (int sort = 0; sort <= 3; sort++) {
            x.row(sort, sort, 3);
            int lost = 64 - (8 << sort);
            for (long v : given) {
                t.edge("put " + v, x.put(sort, 1, v), 1);
                t.edge("sort " + sort + " of " + v, x.element(sort, 1), v << lost >> lost);
            }
            t.edge("the one ahead", x.element(sort, 0), 0);
            t.edge("the one behind", x.element(sort, 2), 0);
        }
        x.put(3, 0, Long.MIN_VALUE);
        t.edge("the least long", x.element(3, 0), Long.MIN_VALUE);
    }

    private static void putBooleans() {
        t.says("(a boolean: whether it is not 0; 1 or 0)");
        DoorsForThree x = new DoorsForThree();
        x.row(0, 4, 2);
        long[] given = {1, -1, 2, 256, 1L << 32, Long.MIN_VALUE, Long.MAX_VALUE};
        for (long v : given) {
            t.edge("put " + v, x.put(0, 1, v), 1);
            t.edge("it is 1", x.element(0, 1), 1);
            t.edge("put 0", x.put(0, 1, 0), 1);
            t.edge("it is 0", x.element(0, 1), 0);
        }
    }

    private static void putPlaces() {
        t.says("Element i of a ROW becomes v: 1. BAD, -11, -12, -13.");
        DoorsForThree x = new DoorsForThree();
        for (int sort = 0; sort <= 4; sort++) {
            x.row(0, sort, 3);
            t.edge("the first", x.put(0, 0, 1), 1);
            t.edge("the last", x.put(0, 2, 1), 1);
            int[] places = {-1, 3, 59, 60, MIN, MAX};
            for (int i : places) {
                t.edge("place " + i, x.put(0, i, 1), -13);
                t.edge("element " + i, x.element(0, i), NO_ELEMENT);
            }
            t.edge("between", x.element(0, 1), 0);
        }
    }

    private static void putRefused() {
        t.says("Element i of a ROW becomes v: 1. BAD, -11, -12, -13.");
        DoorsForThree x = eight();
        x.keep(1, 0);
        int[] places = {0, -1, 60};
        for (int i : places) {
            t.edge("-11 ahead of -13", x.put(0, i, 1), -11);
            t.edge("-12 ahead of -13", x.put(1, i, 1), -12);
            t.edge("BAD ahead of all", x.put(6, i, 1), -1);
            t.edge("BAD ahead of all, below", x.put(-1, i, 1), -1);
        }
        t.edge("the DOOR stays", x.taken(1, 0), 0);
    }

    private static void elementRefused() {
        t.says("Element i of a ROW; Long.MIN_VALUE: BAD, -11 to -13.");
        DoorsForThree x = eight();
        x.keep(1, 0);
        x.row(2, 3, 2);
        x.row(3, 0, 0);
        int[] shelves = {-1, 6, MIN, MAX, 0, 1};
        for (int shelf : shelves) {
            t.edge("element(" + shelf + ", 0)", x.element(shelf, 0), NO_ELEMENT);
        }
        t.edge("an empty ROW", x.element(3, 0), NO_ELEMENT);
        t.edge("place 2 of two", x.element(2, 2), NO_ELEMENT);
        t.edge("place -1", x.element(2, -1), NO_ELEMENT);
        t.edge("place 1 of two", x.element(2, 1), 0);
    }

    private static void isRow(DoorsForThree x, int shelf, int... due) {
        for (int i = 0; i < due.length; i++) {
            t.edge("SHELF " + shelf + ", element " + i, x.element(shelf, i), due[i]);
        }
        t.edge("SHELF " + shelf + " is no longer", x.element(shelf, due.length), NO_ELEMENT);
    }

    /** SHELF 0: 1 2 3 4 5, SHELF 1: 7 8 9. */
    private static DoorsForThree rows() {
        DoorsForThree x = new DoorsForThree();
        Due.bytes(x, 0, 1, 2, 3, 4, 5);
        Due.bytes(x, 1, 7, 8, 9);
        return x;
    }

    private static void shiftPlaces() {
        t.says("n elements of a ROW from i on come to another one (or the same) from j on");
        for (int i = -1; i <= 6; i++) {
            for (int j = -1; j <= 4; j++) {
                for (int n = -1; n <= 6; n++) {
                    DoorsForThree x = rows();
                    boolean fits = i >= 0 && j >= 0 && n >= 0 && i + n <= 5 && j + n <= 3;
                    t.edge("shift(0, " + i + ", 1, " + j + ", " + n + ")", x.shift(0, i, 1, j, n), fits ? n : -13);
                    int[] due = {7, 8, 9};
                    for (int k = 0; fits && k < n; k++) {
                        due[j + k] = 1 + i + k;
                    }
                    isRow(x, 1, due);
                    isRow(x, 0, 1, 2, 3, 4, 5);
                }
            }
        }
        DoorsForThree x = rows();
        int[] far = {MIN, MAX, MAX - 1, MAX - 4};
        for (int v : far) {
            t.edge("i " + v, x.shift(0, v, 1, 0, 1), -13);
            t.edge("j " + v, x.shift(0, 0, 1, v, 1), -13);
            t.edge("n " + v, x.shift(0, 0, 1, 0, v), -13);
            t.edge("i and n " + v, x.shift(0, v, 1, 0, v), -13);
            t.edge("i, j and n " + v, x.shift(0, v, 1, v, v), -13);
            t.edge("n " + v + " that wraps", x.shift(0, 5, 1, 3, v), -13);
        }
        isRow(x, 1, 7, 8, 9);
    }

    private static void shiftNone() {
        t.says("-13 (with n 0, too, if i or j is above how many there are)");
        DoorsForThree x = rows();
        t.edge("at the ends", x.shift(0, 5, 1, 3, 0), 0);
        t.edge("i above", x.shift(0, 6, 1, 3, 0), -13);
        t.edge("j above", x.shift(0, 5, 1, 4, 0), -13);
        t.edge("i below", x.shift(0, -1, 1, 0, 0), -13);
        t.edge("j below", x.shift(0, 0, 1, -1, 0), -13);
        x.row(2, 0, 0);
        t.edge("of an empty one", x.shift(2, 0, 1, 3, 0), 0);
        t.edge("to an empty one", x.shift(0, 5, 2, 0, 0), 0);
        t.edge("of an empty one to itself", x.shift(2, 0, 2, 0, 0), 0);
        t.edge("one of an empty one", x.shift(2, 0, 1, 0, 1), -13);
        t.edge("one to an empty one", x.shift(0, 0, 2, 0, 1), -13);
        t.edge("above an empty one", x.shift(2, 1, 1, 0, 0), -13);
        isRow(x, 1, 7, 8, 9);
    }

    private static void shiftWholeRow() {
        t.says("n elements of a ROW from i on come to another one (or the same) from j on");
        DoorsForThree x = new DoorsForThree();
        for (int sort = 0; sort <= 4; sort++) {
            x.row(0, sort, 60);
            x.row(1, sort, 60);
            x.put(0, 0, 1);
            x.put(0, 59, 1);
            t.edge("all sixty of sort " + sort, x.shift(0, 0, 1, 0, 60), 60);
            t.edge("the first", x.element(1, 0), 1);
            t.edge("the last", x.element(1, 59), 1);
            t.edge("61", x.shift(0, 0, 1, 0, 61), -13);
            t.edge("sixty to itself", x.shift(0, 0, 0, 0, 60), 60);
            t.edge("the first again", x.element(0, 0), 1);
        }
    }

    private static void shiftAsTheyWere() {
        t.says("as they all were before: n");
        for (int i = 0; i <= 5; i++) {
            for (int j = 0; j <= 5; j++) {
                for (int n = 0; i + n <= 5 && j + n <= 5; n++) {
                    DoorsForThree x = rows();
                    t.edge("shift(0, " + i + ", 0, " + j + ", " + n + ")", x.shift(0, i, 0, j, n), n);
                    int[] due = {1, 2, 3, 4, 5};
                    for (int k = 0; k < n; k++) {
                        due[j + k] = 1 + i + k;
                    }
                    isRow(x, 0, due);
                }
            }
        }
    }

    private static void shiftSorts() {
        t.says("-12 (no ROWS, or of unlike sorts)");
        DoorsForThree x = new DoorsForThree();
        for (int sort = 0; sort <= 4; sort++) {
            x.row(0, sort, 2);
            x.put(0, 0, -1);
            for (int other = 0; other <= 4; other++) {
                x.row(1, other, 2);
                t.edge("of sort " + sort + " to " + other, x.shift(0, 0, 1, 1, 1), sort == other ? 1 : -12);
                t.edge("none of sort " + sort + " to " + other, x.shift(0, 0, 1, 1, 0), sort == other ? 0 : -12);
                t.edge("what came", x.element(1, 1), sort == other ? x.element(0, 0) : 0);
            }
        }
    }

    private static void shiftRefused() {
        t.says("BAD, -11 (either), -12 (no ROWS, or of unlike sorts), -13");
        DoorsForThree x = rows();
        x.body(0);
        x.keep(2, 0);
        t.edge("nothing on the first", x.shift(3, 0, 0, 0, 1), -11);
        t.edge("nothing on the other", x.shift(0, 0, 3, 0, 1), -11);
        t.edge("nothing on both", x.shift(3, 0, 4, 0, 1), -11);
        t.edge("nothing on the same", x.shift(3, 0, 3, 0, 0), -11);
        t.edge("a DOOR on the first", x.shift(2, 0, 0, 0, 1), -12);
        t.edge("a DOOR on the other", x.shift(0, 0, 2, 0, 1), -12);
        t.edge("a DOOR on the same", x.shift(2, 0, 2, 0, 0), -12);
        int[] shelves = {-1, 6, MIN, MAX};
        for (int shelf : shelves) {
            t.edge("of SHELF " + shelf, x.shift(shelf, 0, 0, 0, 1), -1);
            t.edge("to SHELF " + shelf, x.shift(0, 0, shelf, 0, 1), -1);
        }
        isRow(x, 0, 1, 2, 3, 4, 5);
    }

    private static void shiftGoesAhead() {
        t.says("-11 nothing is there where something is wanted; -12 it is of another kind; -13 a place that is not there; "
                + "-14 a size below 0");
        t.says("Answers, of several the one named first: BAD (-1): no such number, or it is not as said; NOT (-2): as told; FULL (-3); "
                + "STATE (-5): as told; -11 to -14.");
        DoorsForThree x = rows();
        x.body(0);
        x.keep(2, 0);
        x.row(5, 3, 2);
        t.edge("BAD ahead of -11", x.shift(6, 0, 3, 0, 1), -1);
        t.edge("BAD ahead of -11, the other", x.shift(3, 0, 6, 0, 1), -1);
        t.edge("BAD ahead of -12", x.shift(2, 0, 6, 0, 1), -1);
        t.edge("BAD ahead of -13", x.shift(0, -1, 6, 0, 1), -1);
        t.edge("-11 ahead of -12", x.shift(2, 0, 3, 0, 1), -11);
        t.edge("-11 ahead of -12, the other way", x.shift(3, 0, 2, 0, 1), -11);
        t.edge("-11 ahead of -13", x.shift(0, -1, 3, 0, 1), -11);
        t.edge("-12 ahead of -13", x.shift(0, -1, 2, 0, 1), -12);
        t.edge("-12 ahead of -13: unlike sorts", x.shift(0, 0, 5, 9, -1), -12);
    }

    private static void takenKinds() {
        t.says("What a SHELF holds, taken for a DOOR of KIND k (0 .. 7), or under it: its KIND.");
        DoorsForThree x = eight();
        for (int kind = 0; kind < 8; kind++) {
            x.keep(0, kind);
            boolean[] under = new boolean[8];
            for (int k = kind; k >= 0; k = ABOVE[k]) {
                under[k] = true;
            }
            for (int k = 0; k < 8; k++) {
                t.edge("KIND " + kind + " taken for " + k, x.taken(0, k), under[k] ? kind : -12);
            }
        }
    }

    private static void takenRefused() {
        t.says("or under it: its KIND. BAD, -11, -12.");
        DoorsForThree x = eight();
        x.keep(0, 7);
        x.row(1, 0, 7);
        int[] kinds = {-1, 8, MIN, MAX};
        for (int k : kinds) {
            t.edge("taken(0, " + k + ")", x.taken(0, k), -1);
            t.edge("BAD ahead of -12, " + k, x.taken(1, k), -1);
            t.edge("BAD ahead of -11, " + k, x.taken(2, k), -1);
        }
        int[] shelves = {-1, 6, MIN, MAX};
        for (int shelf : shelves) {
            t.edge("taken(" + shelf + ", 0)", x.taken(shelf, 0), -1);
        }
        for (int k = 0; k < 8; k++) {
            t.edge("a ROW for " + k, x.taken(1, k), -12);
            t.edge("nothing for " + k, x.taken(2, k), -11);
        }
        x.row(1, 0, 0);
        t.edge("an empty ROW", x.taken(1, 0), -12);
    }

    private static void counts() {
        t.says("How many: 0 DOORS, 1 CHILDREN, 2 bytes on THE TAPE, 3 changes that may be UNDONE, 4 BODIES, "
                + "5 bodies that ran in the latest act() (all, kept or not). BAD.");
        DoorsForThree x = new DoorsForThree();
        for (int what = 0; what <= 5; what++) {
            t.edge("count(" + what + ") at first", x.count(what), 0);
        }
        int[] whats = {-1, 6, MIN, MAX};
        for (int what : whats) {
            t.edge("count(" + what + ")", x.count(what), -1);
        }
        x.door(1, 1);
        x.door(1, 1);
        x.child(1, 1);
        x.feed('s');
        x.feed('s');
        x.feed('s');
        x.mend(0, 0, 4);
        x.mend(0, 0, 5);
        x.mend(0, 0, 6);
        x.mend(0, 0, 7);
        for (int i = 0; i < 5; i++) {
            x.body(4);
        }
        x.act(0, 3, 1);
        int[] due = {2, 1, 3, 4, 5, 8};
        for (int what = 0; what <= 5; what++) {
            t.edge("count(" + what + ")", x.count(what), due[what]);
        }
    }
}
