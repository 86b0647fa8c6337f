/** Promises 22 to 28: at five, guards, tables told, the second calendar, pairs, draws. */
public final class SignsTest {
    private static final Due t = new Due();

    public static void main(String[] args) {
        promise22();
        promise22Away();
        promise23();
        promise24();
        promise25();
        promise26();
        promise27();
        promise28();
        t.end();
    }

    /** By turns: DAY 4 (door 1) to 0, DAY 5 (2) to 1, DAY 10 (0) to 2, DAY 20 (3) to 0. */
    private static DoorsForThree calendar() {
        DoorsForThree x = new DoorsForThree();
        Due.doors(x, 10, 0, 1, 4, 1, 1, 5, 2, 1, 20, 3, 1);
        Due.children(x, 9, 3, 9, 0, 9, 5);
        return x;
    }

    /** -1 for each number that is not so, -11, -12 for what is on the SHELF; the way is 0 atFive, 1 guard, 2 judge, 3 byWhat. */
    private static void rowsRefused(String call, int way) {
        DoorsForThree x = calendar();
        t.due(call + ": nothing there", asked(x, way, 0), -11);
        x.row(0, 1, 2);
        t.due(call + ": shorts", asked(x, way, 0), -12);
        x.row(0, 4, 2);
        t.due(call + ": booleans", asked(x, way, 0), -12);
        x.body(0);
        x.keep(0, 0);
        t.due(call + ": a BODY", asked(x, way, 0), -12);
        t.due(call + ": SHELF 6", asked(x, way, 6), -1);
        t.due(call + ": SHELF -1", asked(x, way, -1), -1);
    }

    private static int asked(DoorsForThree x, int way, int shelf) {
        switch (way) {
            case 0: return x.atFive(shelf, 1, 0, 0);
            case 1: return x.guard(shelf, 1, 0, 0);
            case 2: return x.judge(shelf, 0);
            default: return x.byWhat(shelf);
        }
    }

    private static void promise22() {
        rowsRefused("22", 0);
        DoorsForThree x = calendar();
        Due.bytes(x, 0, 3, 2, 1, 0, 3, 4, 127, -1, -128);
        t.due("22: later ones, once each", x.atFive(0, 5, 0, 0), 2);
        t.due("22: all but the first", x.atFive(0, 4, 0, 0), 3);
        t.due("22: DAY 24", x.atFive(0, 24, 0, 0), 0);
        t.due("22: nobody then", x.atFive(0, 24, 0, 1), 0);
        t.due("22: SURE of nobody", x.atFive(0, 24, 0, 2), -2);
        t.due("22: all could", x.atFive(0, 5, 0, 1), 7);
        t.due("22: not SURE", x.atFive(0, 5, 0, 2), -2);
        Due.bytes(x, 1, 0);
        t.due("22: 1 likes it, 2 owns it", x.atFive(1, 5, 0, 1), 6);
        Due.bytes(x, 1, 3);
        t.due("22: 0 likes and owns it", x.atFive(1, 5, 0, 1), 1);
        t.due("22: SURE", x.atFive(1, 5, 0, 2), 0);
        t.due("22: there and back it is 2's", x.atFive(1, 5, 2, 1), 5);
        t.due("22: BAD ahead of -11", x.atFive(2, 0, 0, 0), -1);
        t.due("22: DAY 25", x.atFive(1, 25, 0, 0), -1);
        t.due("22: RULE 5", x.atFive(1, 5, 5, 0), -1);
        t.due("22: RULE -1", x.atFive(1, 5, -1, 0), -1);
        t.due("22: what 3", x.atFive(1, 5, 0, 3), -1);
        t.due("22: what -1", x.atFive(1, 5, 0, -1), -1);
        x.row(3, 0, 0);
        t.due("22: no DOORS found open", x.atFive(3, 5, 0, 1), 0);
    }

    private static void promise22Away() {
        DoorsForThree x = calendar();
        Due.bytes(x, 0, 0);
        Due.awayFrom(x, 2, 5, 6);
        t.due("22: who is away could not have opened its own", x.atFive(0, 5, 0, 1), 2);
        t.due("22: SURE then", x.atFive(0, 5, 0, 2), 1);
        t.due("22: back again", x.atFive(0, 7, 0, 1), 6);
        Due.awayFrom(x, 1, 7, 7);
        t.due("22: who is away could not have taken what it likes", x.atFive(0, 7, 0, 1), 4);
        t.due("22: but how many EARLY ones is told", x.atFive(0, 7, 0, 0), 1);
    }

    private static void promise23() {
        rowsRefused("23", 1);
        DoorsForThree x = calendar();
        Due.bytes(x, 0, 0);
        t.due("23: guard 1 leaves 2", x.guard(0, 5, 0, 0), 1);
        t.due("23: one", x.guard(0, 5, 0, 1), 1);
        Due.bytes(x, 0, 0, 3);
        t.due("23: of like ones the least", x.guard(0, 5, 0, 0), 0);
        t.due("23: two", x.guard(0, 5, 0, 1), 2);
        Due.awayFrom(x, 0, 5, 5);
        t.due("23: who is away need not be guarded", x.guard(0, 5, 0, 0), 1);
        t.due("23: one could", x.guard(0, 5, 0, 1), 1);
        t.due("23: nobody could", x.guard(0, 24, 0, 0), 0);
        t.due("23: none", x.guard(0, 24, 0, 1), 0);
        t.due("23: what 2", x.guard(0, 5, 0, 2), -1);
        t.due("23: what -1", x.guard(0, 5, 0, -1), -1);
        t.due("23: DAY 0", x.guard(0, 0, 0, 0), -1);
        t.due("23: DAY 25", x.guard(0, 25, 0, 0), -1);
        t.due("23: RULE 5", x.guard(0, 5, 5, 0), -1);
        DoorsForThree y = new DoorsForThree();
        y.door(5, 1);
        t.due("23: no CHILDREN, nothing there", y.guard(0, 1, 0, 0), -11);
        Due.bytes(y, 0, 0);
        t.due("23: no CHILDREN", y.guard(0, 1, 0, 0), -2);
        t.due("23: no CHILDREN, how many", y.guard(0, 1, 0, 1), -2);
    }

    private static void promise24() {
        rowsRefused("24", 2);
        DoorsForThree x = calendar();
        Due.bytes(x, 0, 2, 0, 1, 0);
        t.due("24: all so", x.judge(0, 0), -2);
        t.due("24: there and back the last is not", x.judge(0, 2), 3);
        Due.bytes(x, 0, 2, 0, 1, 0, -1, -1);
        t.due("24: not known beyond the DOORS", x.judge(0, 0), 4);
        Due.bytes(x, 0, 2, 0, 1, -1, 0);
        t.due("24: beyond the DOORS", x.judge(0, 0), 4);
        Due.bytes(x, 0, 2, 0, 1, -1);
        t.due("24: the last DOOR is not known", x.judge(0, 0), -2);
        Due.bytes(x, 0, -1, -1, 1);
        t.due("24: some are not known", x.judge(0, 0), -2);
        Due.bytes(x, 0, -1, 1, 0);
        t.due("24: the first that is not so", x.judge(0, 0), 1);
        Due.bytes(x, 0, 2, 3);
        t.due("24: no such child", x.judge(0, 0), 1);
        Due.bytes(x, 0, -2);
        t.due("24: -2 is no child", x.judge(0, 0), 0);
        t.due("24: RULE 5", x.judge(0, 5), -1);
        t.due("24: RULE -1", x.judge(0, -1), -1);
        DoorsForThree y = new DoorsForThree();
        y.door(1, 1);
        Due.bytes(y, 0, -2);
        t.due("24: nobody's DOOR is not so told by -2", y.judge(0, 0), 0);
        Due.bytes(y, 0, -1);
        t.due("24: not known, no CHILDREN", y.judge(0, 0), -2);
        DoorsForThree z = new DoorsForThree();
        Due.bytes(z, 0, -1);
        t.due("24: not known, no DOORS", z.judge(0, 4), 0);
        z.row(0, 0, 0);
        t.due("24: nothing told, no DOORS", z.judge(0, 4), -2);
        Due.bytes(z, 0, -1, -1);
        z.door(1, 1);
        t.due("24: not known, then beyond the DOORS", z.judge(0, 4), 1);
    }

    private static void promise25() {
        rowsRefused("25", 3);
        DoorsForThree x = calendar();
        Due.bytes(x, 0, 2, 0, 1, -1);
        // by worth door 0 goes to child 1, which likes it
        t.due("25: all but by worth", x.byWhat(0), 1 + 2 + 4 + 16);
        Due.bytes(x, 0, 1);
        t.due("25: by worth alone", x.byWhat(0), 8);
        Due.bytes(x, 0, -1, -1, -1, 2);
        t.due("25: there and back alone", x.byWhat(0), 4);
        Due.bytes(x, 0, 9);
        t.due("25: none", x.byWhat(0), 0);
        Due.bytes(x, 0, -1, -1, -1, -1);
        t.due("25: not known, each DOOR", x.byWhat(0), 31);
        Due.bytes(x, 0, -1, -1, -1, -1, -1);
        t.due("25: not known beyond the DOORS", x.byWhat(0), 0);
        x.row(0, 0, 0);
        t.due("25: nothing told", x.byWhat(0), 31);
    }

    private static void promise26() {
        DoorsForThree x = new DoorsForThree();
        Due.doors(x, 2, 7, 1, 3, 7, 1, 4, 7, 1);
        Due.children(x, 9, 0, 9, 0);
        // by turns 0 1 0, then 1 0 1: 6 and 3 s, 3 and 6 s
        t.due("26: turns go on", x.second(0, 4), 9);
        t.due("26: turns go on, alike", x.second(0, 1), 0);
        // there and back 0 1 1, then 0 0 1: 3 and 6 s, 6 and 3 s
        t.due("26: there and back goes on", x.second(2, 9), 24);
        // by need 3, 3, 6: then 1 has 15, 0 has 18, 1 has 27
        t.due("26: all till then goes on", x.second(4, 4), 9);
        t.due("26: SIZE 0", x.second(0, 0), -1);
        t.due("26: SIZE 10", x.second(0, 10), -1);
        t.due("26: RULE 5", x.second(5, 1), -1);
        t.due("26: RULE -1", x.second(-1, 1), -1);
        t.due("26: the giving itself stays", x.giving(0, 0), 3);
        DoorsForThree y = new DoorsForThree();
        Due.doors(y, 9, 1, 1, 2, 0, 1);
        t.due("26: no CHILDREN", y.second(3, 1), 0);
        Due.children(y, 9, 0, 9, 7);
        // door 1 to child 0 (7, then 10), door 0 to child 1 (3, then 6)
        t.due("26: by DAY again", y.second(0, 2), 8);
        Due.awayFrom(y, 0, 2, 3);
        t.due("26: EATEN late too", y.second(0, 2), 4);
        Due.awayFrom(y, 0, 2, 24);
        t.due("26: never EATEN", y.second(0, 2), 9);
    }

    private static void promise27() {
        DoorsForThree x = new DoorsForThree();
        t.due("27: nobody", x.pairs(0, 0), -2);
        Due.doors(x, 1, 7, 1, 2, 2, 1, 3, 1, 1);
        Due.children(x, 9, 7, 9, 1, 9, 2);
        t.due("27: 1 and 2", x.pairs(0, 0), 12);
        t.due("27: both together have more", x.pairs(0, 1), 8);
        t.due("27: by worth none", x.pairs(3, 0), -2);
        t.due("27: by worth 0 more", x.pairs(3, 1), 0);
        x.mend(0, 4, 2);
        x.mend(1, 4, 7);
        x.mend(2, 4, 0);
        // 0 and 1 would both have 4 more, 0 and 2, 1 and 2 nothing
        t.due("27: 0 and 1", x.pairs(0, 0), 1);
        x.mend(2, 4, 2);
        x.mend(0, 4, 1);
        x.mend(1, 4, 0);
        // 0 and 2: child 0 would have 4 more; 1 and 2: child 2 would have 4 more
        t.due("27: of like ones the first", x.pairs(0, 0), 2);
        t.due("27: 4 more", x.pairs(0, 1), 4);
        DoorsForThree y = new DoorsForThree();
        Due.doors(y, 1, 7, 1, 2, 2, 1);
        Due.children(y, 9, 0, 9, 0);
        t.due("27: alike", y.pairs(0, 0), -2);
        t.due("27: alike, 0 more", y.pairs(0, 1), 0);
        y.mend(0, 4, 2);
        Due.law(y, "w+5");
        t.due("27: 1 more", y.pairs(0, 0), 1);
        t.due("27: by 1", y.pairs(0, 1), 1);
        t.due("27: what 2", x.pairs(0, 2), -1);
        t.due("27: what -1", x.pairs(0, -1), -1);
        t.due("27: RULE 5", x.pairs(5, 0), -1);
        t.due("27: RULE -1", x.pairs(-1, 0), -1);
    }

    private static void promise28() {
        DoorsForThree x = new DoorsForThree();
        Due.doors(x, 1, 7, 1, 2, 7, 1, 3, 7, 1);
        t.due("28: no CHILDREN", x.drawn(0, 4, -1), 0);
        t.due("28: no such child", x.drawn(0, 4, 0), -1);
        Due.children(x, 9, 0, 9, 0, 9, 0);
        // by seed 0 and three children: 000 101 000 022
        t.due("28: 9 and 6 and 9 and 6", x.drawn(0, 4, -1), 30);
        t.due("28: 0 has most twice", x.drawn(0, 4, 0), 2);
        t.due("28: 1 once", x.drawn(0, 4, 1), 1);
        t.due("28: 2 once", x.drawn(0, 4, 2), 1);
        t.due("28: one December", x.drawn(0, 1, -1), 9);
        // by the greatest int: 222 100
        t.due("28: another seed", x.drawn(Integer.MAX_VALUE, 2, 2), 1);
        DoorsForThree y = new DoorsForThree();
        Due.doors(y, 9, 7, 2, 2, 7, 1);
        Due.children(y, 9, 0, 9, 0);
        // by seed 7 and two children: 11 01 00 00 01 00
        t.due("28: by DAY", y.drawn(7, 2, 1), 2);
        t.due("28: by DAY, 9 and 3", y.drawn(7, 2, -1), 12);
        y.mend(0, 2, 1);
        t.due("28: alike is not most", y.drawn(7, 6, 0), 3);
        t.due("28: nor for the other", y.drawn(7, 6, 1), 1);
        t.due("28: alike is not unfair", y.drawn(7, 6, -1), 24);
        t.due("28: n 0", y.drawn(7, 0, -1), -1);
        t.due("28: n 51", y.drawn(7, 51, -1), -1);
        t.due("28: n 50", y.drawn(7, 50, -1) > 0);
        t.due("28: child -2", y.drawn(7, 1, -2), -1);
        t.due("28: child 2", y.drawn(7, 1, 2), -1);
        DoorsForThree z = new DoorsForThree();
        z.child(9, 0);
        t.due("28: the only one has most", z.drawn(3, 7, 0), 7);
        z.child(9, 0);
        t.due("28: no DOORS, alike", z.drawn(3, 7, 0), 0);
        for (int i = 0; i < 5; i++) {
            z.door(4, 7);
        }
        Due.children(z, 9, 0, 9, 0, 9, 0);
        // by seed -5 and five children: 34412 21431
        t.due("28: five of them", z.drawn(-5, 2, 4), 1);
        t.due("28: five of them, how unfair", z.drawn(-5, 2, -1), 12);
    }
}
