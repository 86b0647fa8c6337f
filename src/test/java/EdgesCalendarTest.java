/** Section 1 of the document and promises 1 to 9, each sentence that names an edge: doors, children, rows of doors. */
public final class EdgesCalendarTest {
    private static final int MIN = Integer.MIN_VALUE, MAX = Integer.MAX_VALUE;
    private static final Due t = new Due();

    public static void main(String[] args) {
        doorsTwelve();
        doorsTwelveByRow();
        dayBounds();
        whatBounds();
        sizeBounds();
        childrenFive();
        ageBounds();
        likesBounds();
        waitsBounds();
        fromTillBounds();
        fromTillDays();
        fromTillOneDay();
        fromBehindTill();
        fromNever();
        seenBounds();
        spoilsBounds();
        spoilsByHowMuch();
        mendNumbers();
        mendWhats();
        mendTellsWhatItWas();
        ofNumbers();
        ofOpened();
        newObject();
        anObjectForItself();
        manyCalls();
        rowEnds();
        rowEndsWithinAThree();
        rowNotSo();
        rowMissing();
        rowOfOthers();
        rowFromPlaces();
        rowHowMany();
        rowAheadCame();
        t.end();
    }

    private static DoorsForThree oneEach() {
        DoorsForThree x = new DoorsForThree();
        x.door(10, 3);
        x.child(9, 4);
        return x;
    }

    /** What mend() takes and what it refuses; a refused one changes nothing. */
    private static void mendBounds(int what, int least, int most, int atFirst) {
        DoorsForThree x = oneEach();
        t.edge("at first", x.of(0, what), atFirst);
        int[] beyond = {least - 1, most + 1, least - 100, most + 100, MIN, MAX};
        for (int v : beyond) {
            t.edge("mend(0, " + what + ", " + v + ")", x.mend(0, what, v), -1);
            t.edge("it stays", x.of(0, what), atFirst);
        }
        t.edge("a refused one is no CHANGE", x.count(3), 0);
        int was = atFirst;
        for (int v = least; v <= most; v++) {
            t.edge("mend(0, " + what + ", " + v + ")", x.mend(0, what, v), was);
            t.edge("it is " + v, x.of(0, what), v);
            was = v;
        }
        t.edge("from the most to the least", x.mend(0, what, least), most);
    }

    private static void doorsTwelve() {
        t.says("DOORS 0 .. 11, as they come");
        DoorsForThree x = new DoorsForThree();
        t.edge("none", x.of(0, 0), -1);
        for (int door = 0; door < 12; door++) {
            t.edge("how many ahead of it", x.count(0), door);
            t.edge("its number", x.door(24 - door, door % 8), door);
            t.edge("the one behind it is none yet", x.of(door + 1, 0), -1);
        }
        t.says("`int door(int day, int what)`: A DOOR: its number. BAD, FULL: 12.");
        t.edge("the thirteenth", x.door(5, 5), -3);
        t.edge("still twelve", x.count(0), 12);
        t.edge("no number 12", x.of(12, 0), -1);
        t.edge("no number -1", x.of(-1, 0), -1);
        for (int door = 0; door < 12; door++) {
            t.edge("DAY of " + door, x.of(door, 0), 24 - door);
            t.edge("WHAT of " + door, x.of(door, 1), door % 8);
        }
        t.edge("BAD ahead of FULL: DAY 25", x.door(25, 5), -1);
        t.edge("BAD ahead of FULL: WHAT 8", x.door(5, 8), -1);
    }

    private static void doorsTwelveByRow() {
        t.says("one is not so, or DOORS are FULL: those ahead came");
        DoorsForThree x = new DoorsForThree();
        x.row(0, 0, 60);
        for (int i = 0; i < 60; i++) {
            x.put(0, i, 1 + i % 3);
        }
        t.edge("n 12 of twenty", x.doors(0, 0, 12), 12);
        t.edge("twelve", x.count(0), 12);
        t.edge("DAY of the last", x.of(11, 0), 1);
        t.edge("WHAT of the last", x.of(11, 1), 2);
        t.edge("SIZE of the last", x.of(11, 2), 3);
        t.edge("FULL", x.doors(0, 0, 1), 0);
        t.edge("FULL for door(), too", x.door(1, 1), -3);
        DoorsForThree y = new DoorsForThree();
        for (int i = 0; i < 11; i++) {
            y.door(1, 1);
        }
        Due.bytes(y, 0, 7, 7, 7, 8, 8, 8);
        t.edge("one more fits", y.doors(0, 0, 2), 1);
        t.edge("it is the first of them", y.of(11, 0), 7);
        Due.bytes(y, 0, 0, 0, 0);
        t.edge("FULL and not so", y.doors(0, 0, 1), 0);
        t.edge("FULL, a missing row", y.doors(1, 0, 1), 0);
        t.edge("FULL, BAD", y.doors(0, 0, 13), -1);
        y.row(2, 2, 3);
        t.edge("FULL, ints", y.doors(2, 0, 1), -12);
    }

    private static void dayBounds() {
        t.says("DAY (1 .. 24)");
        DoorsForThree x = new DoorsForThree();
        int[] beyond = {0, 25, -1, -24, 124, MIN, MAX};
        for (int day : beyond) {
            t.edge("door(" + day + ", 0)", x.door(day, 0), -1);
        }
        t.edge("none came", x.count(0), 0);
        t.edge("door(1, 0)", x.door(1, 0), 0);
        t.edge("door(24, 0)", x.door(24, 0), 1);
        t.edge("DAY 1", x.of(0, 0), 1);
        t.edge("DAY 24", x.of(1, 0), 24);
        mendBounds(0, 1, 24, 10);
    }

    private static void whatBounds() {
        t.says("WHAT (0 .. 7: star, boot and so on)");
        DoorsForThree x = new DoorsForThree();
        int[] beyond = {-1, 8, -8, 100, MIN, MAX};
        for (int what : beyond) {
            t.edge("door(1, " + what + ")", x.door(1, what), -1);
        }
        t.edge("none came", x.count(0), 0);
        t.edge("door(1, 0)", x.door(1, 0), 0);
        t.edge("door(1, 7)", x.door(1, 7), 1);
        t.edge("WHAT 0", x.of(0, 1), 0);
        t.edge("WHAT 7", x.of(1, 1), 7);
        mendBounds(1, 0, 7, 3);
    }

    private static void sizeBounds() {
        t.says("SIZE (1 .. 9; 1 at first)");
        mendBounds(2, 1, 9, 1);
    }

    private static void childrenFive() {
        t.says("CHILDREN 0 .. 4, as they come");
        DoorsForThree x = new DoorsForThree();
        t.edge("none", x.of(0, 3), -1);
        for (int child = 0; child < 5; child++) {
            t.edge("how many ahead of it", x.count(1), child);
            t.edge("its number", x.child(18 - child, child), child);
            t.edge("the one behind it is none yet", x.of(child + 1, 3), -1);
        }
        t.says("`int child(int age, int likes)`: A child: its number. BAD, FULL: 5.");
        t.edge("the sixth", x.child(5, 5), -3);
        t.edge("still five", x.count(1), 5);
        t.edge("no number 5", x.of(5, 3), -1);
        t.edge("no number -1", x.of(-1, 3), -1);
        for (int child = 0; child < 5; child++) {
            t.edge("AGE of " + child, x.of(child, 3), 18 - child);
            t.edge("LIKES of " + child, x.of(child, 4), child);
        }
        t.edge("BAD ahead of FULL: AGE 19", x.child(19, 5), -1);
        t.edge("BAD ahead of FULL: LIKES 8", x.child(5, 8), -1);
    }

    private static void ageBounds() {
        t.says("AGE (1 .. 18)");
        DoorsForThree x = new DoorsForThree();
        int[] beyond = {0, 19, -1, 118, MIN, MAX};
        for (int age : beyond) {
            t.edge("child(" + age + ", 0)", x.child(age, 0), -1);
        }
        t.edge("nobody came", x.count(1), 0);
        t.edge("child(1, 0)", x.child(1, 0), 0);
        t.edge("child(18, 0)", x.child(18, 0), 1);
        t.edge("AGE 1", x.of(0, 3), 1);
        t.edge("AGE 18", x.of(1, 3), 18);
        mendBounds(3, 1, 18, 9);
    }

    private static void likesBounds() {
        t.says("LIKES (0 .. 7: a WHAT)");
        DoorsForThree x = new DoorsForThree();
        int[] beyond = {-1, 8, 100, MIN, MAX};
        for (int likes : beyond) {
            t.edge("child(1, " + likes + ")", x.child(1, likes), -1);
        }
        t.edge("nobody came", x.count(1), 0);
        t.edge("child(1, 0)", x.child(1, 0), 0);
        t.edge("child(1, 7)", x.child(1, 7), 1);
        t.edge("LIKES 0", x.of(0, 4), 0);
        t.edge("LIKES 7", x.of(1, 4), 7);
        mendBounds(4, 0, 7, 4);
    }

    private static void waitsBounds() {
        t.says("WAITS (0 .. 9: how well; 5 at first)");
        mendBounds(5, 0, 9, 5);
    }

    private static void fromTillBounds() {
        t.says("FROM, TILL (0 .. 24; 0, 0 at first");
        mendBounds(6, 0, 24, 0);
        mendBounds(7, 0, 24, 0);
    }

    /** One DOOR on each of the DAYS: for which of them is the child away? */
    private static void awayOn(int from, int till, int... days) {
        DoorsForThree x = oneEach();
        x.mend(0, 6, from);
        x.mend(0, 7, till);
        for (int day = 1; day <= 24; day++) {
            x.mend(0, 0, day);
            boolean due = false;
            for (int d : days) {
                due |= d == day;
            }
            t.edge("away from " + from + " till " + till + " on DAY " + day, x.away(0, 0), due ? 1 : 0);
        }
    }

    private static void fromTillDays() {
        t.says("away on all DAYS from the one to the other");
        awayOn(0, 0);
        awayOn(5, 8, 5, 6, 7, 8);
        awayOn(1, 2, 1, 2);
        awayOn(23, 24, 23, 24);
        awayOn(1, 24, 1, 2, 3, 4, 5, 6, 7, 8, 9, 10, 11, 12, 13, 14, 15, 16, 17, 18, 19, 20, 21, 22, 23, 24);
    }

    private static void fromTillOneDay() {
        t.says("away on all DAYS from the one to the other");
        awayOn(1, 1, 1);
        awayOn(12, 12, 12);
        awayOn(24, 24, 24);
    }

    private static void fromBehindTill() {
        t.says("away on all DAYS from the one to the other");
        awayOn(9, 8);
        awayOn(24, 1);
        awayOn(1, 0);
        awayOn(24, 0);
    }

    private static void fromNever() {
        t.says("FROM 0: never");
        awayOn(0, 24);
        awayOn(0, 1);
    }

    private static void seenBounds() {
        t.says("SEEN (0, 1; 0 at first: whether pictures are known ahead)");
        mendBounds(8, 0, 1, 0);
        DoorsForThree x = new DoorsForThree();
        t.edge("without DOORS and CHILDREN, too", x.mend(0, 8, 1), 0);
        t.edge("it is 1", x.of(0, 8), 1);
    }

    private static void spoilsBounds() {
        t.says("SPOILS (0 .. 9; 1 at first: by how much a day)");
        mendBounds(9, 0, 9, 1);
        DoorsForThree x = new DoorsForThree();
        t.edge("without DOORS and CHILDREN, too", x.mend(0, 9, 9), 1);
        t.edge("it is 9", x.of(0, 9), 9);
    }

    private static void spoilsByHowMuch() {
        t.says("less SPOILS times n; 0 at least");
        DoorsForThree x = oneEach();
        x.mend(0, 2, 9);
        int[] onDay2 = {27, 25, 23, 21, 19, 17, 15, 13, 11, 9};
        for (int spoils = 0; spoils <= 9; spoils++) {
            x.mend(0, 9, spoils);
            t.edge("SPOILS " + spoils + ", 0 days late", x.worth(0, 0), 27);
            t.edge("SPOILS " + spoils + ", 2 days late", x.worth(0, 2), onDay2[spoils]);
        }
        t.edge("exactly 0", x.worth(0, 3), 0);
        t.edge("below 0 is 0", x.worth(0, 4), 0);
        t.edge("far below 0 is 0", x.worth(0, 24), 0);
        x.mend(0, 9, 1);
        t.edge("SPOILS 1: 23 days", x.worth(0, 23), 4);
        t.edge("SPOILS 1: 24 days", x.worth(0, 24), 3);
        x.mend(0, 2, 1);
        t.edge("3 less 2", x.worth(0, 2), 1);
        t.edge("3 less 3", x.worth(0, 3), 0);
        t.edge("3 less 4", x.worth(0, 4), 0);
    }

    private static void mendNumbers() {
        t.says("DAY (what 0), WHAT (1), SIZE (2) of a DOOR, AGE (3), LIKES (4), WAITS (5), FROM (6), TILL (7) of a child");
        DoorsForThree x = new DoorsForThree();
        for (int what = 0; what <= 7; what++) {
            t.edge("nothing there yet: what " + what, x.mend(0, what, 1), -1);
        }
        x.door(1, 1);
        x.door(1, 1);
        for (int what = 3; what <= 7; what++) {
            t.edge("DOORS alone: what " + what, x.mend(0, what, 1), -1);
        }
        x.child(1, 1);
        for (int what = 0; what <= 2; what++) {
            t.edge("of the last DOOR: what " + what, x.mend(1, what, 2), 1);
            t.edge("behind it: what " + what, x.mend(2, what, 2), -1);
            t.edge("number -1: what " + what, x.mend(-1, what, 2), -1);
            t.edge("of the first it stays", x.of(0, what), 1);
        }
        for (int what = 3; what <= 7; what++) {
            t.edge("of the only child: what " + what, x.mend(0, what, 2) >= 0);
            t.edge("behind it: what " + what, x.mend(1, what, 2), -1);
            t.edge("number -1: what " + what, x.mend(-1, what, 2), -1);
            t.edge("far off: what " + what, x.mend(MIN, what, 2), -1);
            t.edge("far off too: what " + what, x.mend(MAX, what, 2), -1);
        }
        t.says("SEEN (8), SPOILS (9; number 0 for these)");
        int[] others = {1, -1, 2, MIN, MAX};
        for (int number : others) {
            t.edge("SEEN of " + number, x.mend(number, 8, 1), -1);
            t.edge("SPOILS of " + number, x.mend(number, 9, 2), -1);
        }
        t.edge("SEEN stays", x.of(0, 8), 0);
        t.edge("SPOILS stays", x.of(0, 9), 1);
    }

    private static void mendWhats() {
        t.says("SEEN (8), SPOILS (9; number 0 for these) becomes v: what it was. BAD.");
        DoorsForThree x = oneEach();
        int[] others = {-1, 10, 11, MIN, MAX};
        for (int what : others) {
            t.edge("what " + what, x.mend(0, what, 1), -1);
        }
    }

    private static void mendTellsWhatItWas() {
        t.says("becomes v: what it was");
        DoorsForThree x = oneEach();
        int[] first = {10, 3, 1, 9, 4, 5, 0, 0, 0, 1};
        for (int what = 0; what <= 9; what++) {
            t.edge("the same: what " + what, x.mend(0, what, first[what]), first[what]);
            int other = first[what] == 1 ? 2 : 1;
            t.edge("another: what " + what, x.mend(0, what, other), first[what]);
            t.edge("back: what " + what, x.mend(0, what, first[what]), other);
            for (int rest = 0; rest <= 9; rest++) {
                t.edge("the others stay: what " + rest, x.of(0, rest), first[rest]);
            }
        }
    }

    private static void ofNumbers() {
        t.says("As of mend() (0 to 9)");
        DoorsForThree x = oneEach();
        int[] others = {-1, 1, 12, MIN, MAX};
        for (int what = 0; what <= 9; what++) {
            for (int number : others) {
                t.edge("of(" + number + ", " + what + ")", x.of(number, what), -1);
            }
        }
        int[] whats = {-1, 11, MIN, MAX};
        for (int what : whats) {
            t.edge("of(0, " + what + ")", x.of(0, what), -1);
        }
    }

    private static void ofOpened() {
        t.says("of a DOOR 10 who opened it in deed (NOT: nobody)");
        DoorsForThree x = new DoorsForThree();
        t.edge("no DOOR", x.of(0, 10), -1);
        x.child(9, 1);
        t.edge("a child is no DOOR", x.of(0, 10), -1);
        x.child(9, 1);
        for (int door = 0; door < 12; door++) {
            x.door(1, 1);
            t.edge("nobody", x.of(door, 10), -2);
        }
        x.open(1, 11);
        x.open(0, 0);
        t.edge("the last", x.of(11, 10), 1);
        t.edge("the first", x.of(0, 10), 0);
        t.edge("nobody between", x.of(5, 10), -2);
        t.edge("no DOOR 12", x.of(12, 10), -1);
        t.edge("no DOOR -1", x.of(-1, 10), -1);
    }

    private static void newObject() {
        t.says("An empty calendar, nobody.");
        DoorsForThree x = new DoorsForThree();
        for (int what = 0; what <= 5; what++) {
            t.edge("count(" + what + ")", x.count(what), 0);
        }
        for (int what = 0; what <= 3; what++) {
            t.edge("led(" + what + ")", x.led(what), 0);
        }
        for (int rule = 0; rule < 5; rule++) {
            t.edge("whose(" + 100 * rule + ")", x.whose(100 * rule), -1);
            t.edge("all(" + 10 * rule + ")", x.all(10 * rule), -1);
            t.edge("swap", x.swap(rule), -2);
            t.edge("swaps", x.swaps(rule, 0), 0);
            t.edge("how unfair after swaps", x.swaps(rule, 1), 0);
            t.edge("big", x.big(rule, -1), -2);
            t.edge("second", x.second(rule, 1), 0);
            t.edge("pairs", x.pairs(rule, 0), -2);
            t.edge("pairs, how much", x.pairs(rule, 1), 0);
            for (int what = 0; what <= 2; what++) {
                t.edge("giving(" + rule + ", " + what + ")", x.giving(rule, what), 0);
            }
        }
        t.edge("fairest", x.fairest(-1), -2);
        t.edge("envyFree", x.envyFree(), -2);
        t.edge("bestRule", x.bestRule(0), 0);
        t.edge("bestRule, how unfair", x.bestRule(1), 0);
        t.edge("drawn", x.drawn(1, 50, -1), 0);
        t.edge("forgotten", x.forgotten(), 0);
        t.edge("undo", x.undo(), -5);
        t.edge("redo", x.redo(), -5);
        t.edge("back", x.back(), -5);
        t.edge("image", x.image(), 0);
        t.edge("act", x.act(0, 0, 7), 0);
        t.edge("trace", x.trace(0), -1);
        for (int shelf = 0; shelf < 6; shelf++) {
            t.edge("SHELF " + shelf, x.taken(shelf, 0), -11);
            t.edge("its ROW", x.byWhat(shelf), -11);
        }
    }

    private static void anObjectForItself() {
        t.says("An empty calendar, nobody.");
        DoorsForThree x = oneEach();
        Due.law(x, "7");
        x.body(3);
        x.row(0, 0, 3);
        x.mend(0, 8, 1);
        x.day();
        x.open(0, 0);
        DoorsForThree y = oneEach();
        t.edge("the law of another", y.worth(0, 0), 3);
        t.edge("the BODIES of another", y.count(4), 0);
        t.edge("the ROW of another", y.put(0, 0, 1), -11);
        t.edge("SEEN of another", y.of(0, 8), 0);
        t.edge("the DAY of another", y.led(3), 0);
        t.edge("the deeds of another", y.of(0, 10), -2);
        t.edge("the CHANGES of another", y.undo(), -5);
    }

    private static void manyCalls() {
        t.says("An object is used for at most 512 calls after it has been made");
        DoorsForThree x = oneEach();
        for (int call = 3; call <= 510; call++) {
            t.edge("call " + call, x.mend(0, 0, 1 + call % 24), call == 3 ? 10 : 1 + (call - 1) % 24);
        }
        t.edge("call 511", x.count(3), 40);
        t.edge("call 512", x.of(0, 0), 1 + 510 % 24);
    }

    /** How many of n came from place i of a ROW of bytes on a new calendar. */
    private static int came(int i, int n, int... bytes) {
        DoorsForThree x = new DoorsForThree();
        Due.bytes(x, 0, bytes);
        int came = x.doors(0, i, n);
        t.edge("as many DOORS as came", x.count(0), Math.max(came, 0));
        return came;
    }

    private static void rowEnds() {
        t.says("it ends where the row is missing, ends (within a three, too)");
        t.edge("an empty row", came(0, 1), 0);
        t.edge("one three", came(0, 1, 1, 1, 1), 1);
        t.edge("one three, two wanted", came(0, 2, 1, 1, 1), 1);
        t.edge("one three, twelve wanted", came(0, 12, 1, 1, 1), 1);
        t.edge("from its last element", came(2, 1, 1, 1, 1), 0);
        t.edge("from behind its last", came(3, 1, 1, 1, 1), 0);
        t.edge("from far behind", came(60, 1, 1, 1, 1), 0);
    }

    private static void rowEndsWithinAThree() {
        t.says("it ends where the row is missing, ends (within a three, too)");
        t.edge("one of three", came(0, 1, 1), 0);
        t.edge("two of three", came(0, 1, 1, 1), 0);
        t.edge("one three and one", came(0, 2, 1, 1, 1, 2), 1);
        t.edge("one three and two", came(0, 2, 1, 1, 1, 2, 2), 1);
        t.edge("two threes", came(0, 2, 1, 1, 1, 2, 2, 2), 2);
        t.edge("from place 1", came(1, 2, 1, 1, 1, 2, 2, 2), 1);
        t.edge("from place 2", came(2, 2, 1, 1, 1, 2, 2, 2), 1);
        t.edge("from place 3", came(3, 2, 1, 1, 1, 2, 2, 2), 1);
        t.edge("from place 4", came(4, 2, 1, 1, 1, 2, 2, 2), 0);
    }

    private static void rowNotSo() {
        t.says("by threes DAY, WHAT, SIZE: n of them");
        t.edge("the least", came(0, 1, 1, 0, 1), 1);
        t.edge("the most", came(0, 1, 24, 7, 9), 1);
        t.edge("DAY 0", came(0, 1, 0, 0, 1), 0);
        t.edge("DAY 25", came(0, 1, 25, 0, 1), 0);
        t.edge("DAY -1", came(0, 1, -1, 0, 1), 0);
        t.edge("WHAT -1", came(0, 1, 1, -1, 1), 0);
        t.edge("WHAT 8", came(0, 1, 1, 8, 1), 0);
        t.edge("SIZE 0", came(0, 1, 1, 0, 0), 0);
        t.edge("SIZE 10", came(0, 1, 1, 0, 10), 0);
        t.edge("SIZE -1", came(0, 1, 1, 0, -1), 0);
        t.edge("the greatest bytes", came(0, 1, 127, 127, 127), 0);
        t.edge("the least bytes", came(0, 1, -128, -128, -128), 0);
        // a byte holds the lowest bits alone: 256 + 5 is 5
        t.edge("what was cut to fit", came(0, 1, 261, 257, 263), 1);
    }

    private static void rowMissing() {
        t.says("BAD, -12 (no ROW of bytes; a SHELF that holds nothing is missing)");
        DoorsForThree x = new DoorsForThree();
        int[] places = {0, 1, -1, 59, 60, MIN, MAX};
        for (int shelf = 0; shelf < 6; shelf++) {
            for (int i : places) {
                t.edge("doors(" + shelf + ", " + i + ", 1)", x.doors(shelf, i, 1), 0);
            }
        }
        Due.bytes(x, 0, 1, 1, 1);
        x.keep(0, -1);
        t.edge("holding nothing again", x.doors(0, 0, 1), 0);
        t.edge("none came", x.count(0), 0);
    }

    private static void rowOfOthers() {
        t.says("BAD, -12 (no ROW of bytes; a SHELF that holds nothing is missing)");
        DoorsForThree x = new DoorsForThree();
        for (int sort = 1; sort <= 4; sort++) {
            x.row(0, sort, 3);
            for (int i = 0; i < 3; i++) {
                x.put(0, i, 1);
            }
            t.edge("a ROW of sort " + sort, x.doors(0, 0, 1), -12);
            t.edge("from behind it", x.doors(0, 9, 1), -12);
            t.edge("from below", x.doors(0, -1, 1), -12);
            x.row(0, sort, 0);
            t.edge("an empty one of sort " + sort, x.doors(0, 0, 1), -12);
        }
        x.body(0);
        x.keep(0, 0);
        t.edge("a DOOR", x.doors(0, 0, 1), -12);
        t.edge("none came", x.count(0), 0);
        t.edge("BAD ahead of -12: n 0", x.doors(0, 0, 0), -1);
        t.edge("BAD ahead of -12: n 13", x.doors(0, 0, 13), -1);
    }

    private static void rowFromPlaces() {
        t.says("DOORS FROM A ROW of bytes, from a place on");
        int[] row = {3, 4, 5, 6, 7, 8};
        DoorsForThree x = new DoorsForThree();
        Due.bytes(x, 0, row);
        for (int i = 0; i <= 3; i++) {
            t.edge("from place " + i, x.doors(0, i, 1), 1);
            t.edge("DAY", x.of(i, 0), row[i]);
            t.edge("WHAT", x.of(i, 1), row[i + 1]);
            t.edge("SIZE", x.of(i, 2), row[i + 2]);
        }
        int[] beyond = {4, 5, 6, 7, -1, -2, -3, -4, MIN, MIN + 1, MAX, MAX - 1, MAX - 2, MAX - 35};
        for (int i : beyond) {
            t.edge("from place " + i, x.doors(0, i, 12), 0);
        }
        t.edge("four came", x.count(0), 4);
    }

    private static void rowHowMany() {
        t.says("from place i on, n (1 .. 12) of them: how many came");
        int[] row = new int[60];
        for (int i = 0; i < row.length; i++) {
            row[i] = 1;
        }
        for (int n = 1; n <= 12; n++) {
            t.edge("n " + n, came(0, n, row), n);
        }
        int[] beyond = {0, 13, -1, MIN, MAX};
        for (int n : beyond) {
            t.edge("n " + n, came(0, n, row), -1);
        }
        DoorsForThree x = new DoorsForThree();
        int[] shelves = {-1, 6, MIN, MAX};
        for (int shelf : shelves) {
            t.edge("SHELF " + shelf, x.doors(shelf, 0, 1), -1);
        }
        Due.bytes(x, 5, 1, 1, 1);
        t.edge("SHELF 5", x.doors(5, 0, 1), 1);
    }

    private static void rowAheadCame() {
        t.says("those ahead came");
        DoorsForThree x = new DoorsForThree();
        Due.bytes(x, 0, 5, 1, 2, 6, 2, 3, 7, 8, 4, 8, 3, 5);
        t.edge("two ahead of WHAT 8", x.doors(0, 0, 4), 2);
        t.edge("two are there", x.count(0), 2);
        t.edge("SIZE of the first", x.of(0, 2), 2);
        t.edge("SIZE of the second", x.of(1, 2), 3);
        t.edge("they are no CHANGES", x.count(3), 0);
        t.edge("the row stays", x.element(0, 7), 8);
        t.edge("the one behind comes by its place", x.doors(0, 9, 1), 1);
        t.edge("as the third", x.of(2, 0), 8);
    }
}
