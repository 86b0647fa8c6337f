/** Sections 3 and 4 of the document and promises 22 to 28, each sentence that names an edge: rows told, the second calendar, draws. */
public final class EdgesSignsTest {
    private static final int MIN = Integer.MIN_VALUE, MAX = Integer.MAX_VALUE;
    private static final int TURNS = 0, BACKWARDS = 2, WORTH = 3, NEED = 4;
    private static final Due t = new Due();

    public static void main(String[] args) {
        rowsRefused();
        earlyDays();
        earlyOncesAndNoDoors();
        earlyWholeRow();
        whoLikes();
        whoOwns();
        whoAway();
        sureOnlyOne();
        atFiveNumbers();
        guardOfLikeOnes();
        guardHowMany();
        guardNobody();
        guardNumbers();
        judgedFirst();
        judgedNotKnown();
        judgedNoneSuch();
        judgedBeyond();
        judgeNumbers();
        byWhatBits();
        byWhatNumbers();
        secondSizes();
        secondGoesOn();
        secondNobody();
        secondNumbers();
        pairsOfLikeOnes();
        pairsMore();
        pairsNobody();
        pairsNumbers();
        drawnNumbers();
        drawnSeeds();
        drawnByDay();
        drawnMost();
        drawnNobody();
        t.end();
    }

    /** What looks at a ROW of bytes: 0 atFive, 1 guard, 2 judge, 3 byWhat. */
    private static int looks(DoorsForThree x, int way, int shelf) {
        switch (way) {
            case 0: return x.atFive(shelf, 1, 0, 0);
            case 1: return x.guard(shelf, 1, 0, 1);
            case 2: return x.judge(shelf, 0);
            default: return x.byWhat(shelf);
        }
    }

    private static void rowsRefused() {
        t.says("at five, told, second (ROWS on SHELVES; BAD, -11, -12 (no ROW of bytes))");
        for (int way = 0; way < 4; way++) {
            DoorsForThree x = Due.alike(2, 2);
            for (int shelf = 0; shelf < 6; shelf++) {
                t.edge("nothing on SHELF " + shelf + ", way " + way, looks(x, way, shelf), -11);
            }
            int[] shelves = {-1, 6, MIN, MAX};
            for (int shelf : shelves) {
                t.edge("SHELF " + shelf + ", way " + way, looks(x, way, shelf), -1);
            }
            x.body(0);
            x.keep(5, 0);
            t.edge("a DOOR, way " + way, looks(x, way, 5), -12);
            for (int sort = 1; sort <= 4; sort++) {
                x.row(5, sort, 2);
                t.edge("sort " + sort + ", way " + way, looks(x, way, 5), -12);
                x.row(5, sort, 0);
                t.edge("an empty one of sort " + sort + ", way " + way, looks(x, way, 5), -12);
            }
            x.row(5, 0, 0);
            t.edge("an empty one of bytes, way " + way, looks(x, way, 5) >= -2);
            x.keep(5, -1);
            t.edge("nothing again, way " + way, looks(x, way, 5), -11);
        }
    }

    private static void earlyDays() {
        t.says("DOORS found open on a DAY (1 .. 24): EARLY ones are those with a later DAY: how many");
        DoorsForThree x = new DoorsForThree();
        Due.doors(x, 1, 7, 1, 2, 7, 1, 23, 7, 1, 24, 7, 1);
        x.child(9, 0);
        Due.bytes(x, 0, 0, 1, 2, 3);
        int[] due = new int[25];
        for (int day = 1; day <= 24; day++) {
            due[day] = (day < 2 ? 1 : 0) + (day < 23 ? 1 : 0) + (day < 24 ? 1 : 0);
            t.edge("on DAY " + day, x.atFive(0, day, 0, 0), due[day]);
        }
        int[] days = {0, 25, -1, MIN, MAX};
        for (int day : days) {
            t.edge("on DAY " + day, x.atFive(0, day, 0, 0), -1);
        }
        t.edge("on its very DAY nobody was there", x.atFive(0, 24, 0, 1), 0);
        t.edge("a day ahead of it one was", x.atFive(0, 23, 0, 1), 1);
    }

    private static void earlyOncesAndNoDoors() {
        t.says("AT FIVE: a ROW of bytes on a SHELF: DOORS found open");
        DoorsForThree x = Due.alike(3, 2);
        Due.bytes(x, 0, 2, 2, 2);
        t.edge("one DOOR told three times", x.atFive(0, 1, 0, 0), 1);
        Due.bytes(x, 0, 3, 4, 12, 127, -1, -2, -128);
        t.edge("no DOORS", x.atFive(0, 1, 0, 0), 0);
        t.edge("nobody", x.atFive(0, 1, 0, 1), 0);
        Due.bytes(x, 0, 258);
        t.edge("256 and 2 is the byte 2", x.atFive(0, 1, 0, 0), 1);
        x.row(1, 0, 0);
        t.edge("an empty ROW", x.atFive(1, 1, 0, 0), 0);
        t.edge("an empty ROW, who", x.atFive(1, 1, 0, 1), 0);
        t.edge("an empty ROW, SURE", x.atFive(1, 1, 0, 2), -2);
    }

    private static void earlyWholeRow() {
        t.says("AT FIVE: a ROW of bytes on a SHELF: DOORS found open");
        DoorsForThree x = Due.alike(12, 5);
        x.row(0, 0, 60);
        t.edge("0 at first: the first DOOR", x.atFive(0, 1, 0, 0), 1);
        for (int i = 0; i < 12; i++) {
            x.put(0, 59 - i, i);
        }
        t.edge("all twelve", x.atFive(0, 1, 0, 0), 12);
        t.edge("all five", x.atFive(0, 1, 0, 1), 31);
        DoorsForThree y = new DoorsForThree();
        y.row(0, 0, 60);
        t.edge("no DOORS at all", y.atFive(0, 1, 0, 0), 0);
    }

    /** By turns DOOR 0 is child 0's, 1 is 1's, 2 is 2's; child 0 likes the WHAT of DOOR 1. */
    private static DoorsForThree three() {
        DoorsForThree x = new DoorsForThree();
        Due.doors(x, 10, 0, 1, 11, 1, 1, 12, 2, 1);
        Due.children(x, 9, 1, 9, 7, 9, 7);
        return x;
    }

    private static void whoLikes() {
        t.says("each child that is not away that DAY and LIKES the WHAT of some EARLY one");
        DoorsForThree x = three();
        Due.bytes(x, 0, 1);
        t.edge("0 likes it, 1 has it", x.atFive(0, 10, TURNS, 1), 1 + 2);
        t.edge("it is not EARLY", x.atFive(0, 11, TURNS, 1), 0);
        x.mend(2, 4, 1);
        t.edge("2 likes it, too", x.atFive(0, 10, TURNS, 1), 1 + 2 + 4);
        Due.bytes(x, 0, 0, 1);
        t.edge("of two, the second EARLY", x.atFive(0, 10, TURNS, 1), 1 + 2 + 4);
    }

    private static void whoOwns() {
        t.says("or whose own (by a RULE) is among them");
        DoorsForThree x = three();
        Due.bytes(x, 0, 2);
        t.edge("by turns", x.atFive(0, 10, TURNS, 1), 4);
        // by worth the first has two: 3 and the 7 that it likes
        t.edge("by worth it is the second's", x.atFive(0, 10, WORTH, 1), 2);
        Due.bytes(x, 0, 0, 2);
        t.edge("one has one, one the other", x.atFive(0, 1, TURNS, 1), 1 + 4);
        t.edge("the first is not EARLY", x.atFive(0, 10, TURNS, 1), 4);
        DoorsForThree y = Due.alike(5, 5);
        for (int door = 0; door < 5; door++) {
            Due.bytes(y, 0, door);
            t.edge("its own " + door, y.atFive(0, 4, TURNS, 1), 1 << door);
            t.edge("SURE " + door, y.atFive(0, 4, TURNS, 2), door);
        }
    }

    private static void whoAway() {
        t.says("each child that is not away that DAY");
        DoorsForThree x = three();
        Due.bytes(x, 0, 1);
        Due.awayFrom(x, 0, 5, 6);
        t.edge("the DAY ahead of FROM", x.atFive(0, 4, TURNS, 1), 3);
        t.edge("on FROM", x.atFive(0, 5, TURNS, 1), 2);
        t.edge("on TILL", x.atFive(0, 6, TURNS, 1), 2);
        t.edge("the DAY behind TILL", x.atFive(0, 7, TURNS, 1), 3);
        x.mend(0, 6, 0);
        t.edge("FROM 0: never away", x.atFive(0, 5, TURNS, 1), 3);
        Due.awayFrom(x, 0, 6, 5);
        t.edge("FROM behind TILL", x.atFive(0, 5, TURNS, 1), 3);
        Due.awayFrom(x, 0, 11, 11);
        t.edge("away on the DOOR's DAY, not that DAY", x.atFive(0, 5, TURNS, 1), 3);
    }

    private static void sureOnlyOne() {
        t.says("SURE: the only one; NOT.");
        DoorsForThree x = three();
        Due.bytes(x, 0, 1);
        t.edge("two could", x.atFive(0, 10, TURNS, 2), -2);
        t.edge("nobody could", x.atFive(0, 11, TURNS, 2), -2);
        Due.bytes(x, 0, 0);
        t.edge("the first alone", x.atFive(0, 9, TURNS, 2), 0);
        Due.bytes(x, 0, 2);
        t.edge("the last alone", x.atFive(0, 9, TURNS, 2), 2);
        Due.bytes(x, 0, 0, 1, 2);
        t.edge("three could", x.atFive(0, 9, TURNS, 2), -2);
        DoorsForThree y = Due.alike(2, 0);
        Due.bytes(y, 0, 0);
        t.edge("no CHILDREN", y.atFive(0, 1, TURNS, 2), -2);
        t.edge("no CHILDREN, who", y.atFive(0, 1, TURNS, 1), 0);
        t.edge("no CHILDREN, how many", y.atFive(0, 1, TURNS, 0), 1);
    }

    private static void atFiveNumbers() {
        t.says("AT FIVE: how many EARLY (what 0), who (1: bits), SURE (2; NOT).");
        DoorsForThree x = three();
        Due.bytes(x, 5, 1);
        int[] whats = {-1, 3, MIN, MAX};
        for (int what : whats) {
            t.edge("what " + what, x.atFive(5, 1, 0, what), -1);
        }
        int[] rules = {-1, 5, MIN, MAX};
        for (int rule : rules) {
            t.edge("RULE " + rule, x.atFive(5, 1, rule, 0), -1);
        }
        t.edge("RULE 4", x.atFive(5, 1, 4, 0), 1);
        t.edge("BAD ahead of -11: DAY 0", x.atFive(0, 0, 0, 0), -1);
        t.edge("BAD ahead of -11: RULE 5", x.atFive(0, 1, 5, 0), -1);
        t.edge("BAD ahead of -11: what 3", x.atFive(0, 1, 0, 3), -1);
        x.row(0, 1, 1);
        t.edge("BAD ahead of -12: DAY 25", x.atFive(0, 25, 0, 0), -1);
    }

    private static void guard(DoorsForThree x, int day, int due, int many) {
        t.edge("who on DAY " + day, x.guard(0, day, TURNS, 0), due);
        t.edge("how many on DAY " + day, x.guard(0, day, TURNS, 1), many);
    }

    private static void guardOfLikeOnes() {
        t.says("GUARD: the child (it guards all others) with which the fewest could have been (it left out; of like ones the least)");
        DoorsForThree x = three();
        Due.bytes(x, 0, 0, 1, 2);
        guard(x, 9, 0, 2);
        guard(x, 12, 0, 0);
        Due.bytes(x, 0, 1, 2);
        Due.awayFrom(x, 0, 9, 9);
        // 1 and 2 could have been
        guard(x, 9, 1, 1);
        Due.awayFrom(x, 1, 9, 9);
        guard(x, 9, 2, 0);
        Due.awayFrom(x, 2, 9, 9);
        guard(x, 9, 0, 0);
        x.row(0, 0, 0);
        guard(x, 1, 0, 0);
    }

    private static void guardHowMany() {
        t.says("GUARD: the child (what 0; NOT: no CHILDREN), how many (1; NOT).");
        DoorsForThree x = Due.alike(5, 5);
        Due.bytes(x, 0, 0, 1, 2, 3, 4);
        guard(x, 4, 0, 4);
        Due.bytes(x, 0, 4);
        guard(x, 4, 4, 0);
        Due.bytes(x, 0, 3, 4);
        guard(x, 4, 3, 1);
        guard(x, 5, 0, 0);
        DoorsForThree y = Due.alike(1, 1);
        Due.bytes(y, 0, 0);
        guard(y, 4, 0, 0);
        guard(y, 5, 0, 0);
    }

    private static void guardNobody() {
        t.says("GUARD: the child (what 0; NOT: no CHILDREN), how many (1; NOT).");
        DoorsForThree x = Due.alike(2, 0);
        t.edge("-11 ahead of NOT", x.guard(0, 1, 0, 0), -11);
        t.edge("-11 ahead of NOT, how many", x.guard(0, 1, 0, 1), -11);
        x.row(0, 1, 3);
        t.edge("-12 ahead of NOT", x.guard(0, 1, 0, 0), -12);
        Due.bytes(x, 0, 1);
        t.edge("who", x.guard(0, 1, 0, 0), -2);
        t.edge("how many", x.guard(0, 1, 0, 1), -2);
        t.edge("BAD ahead of NOT", x.guard(0, 1, 0, 2), -1);
        x.child(9, 0);
        t.edge("one came", x.guard(0, 1, 0, 0), 0);
    }

    private static void guardNumbers() {
        t.says("at five, told, second (ROWS on SHELVES; BAD, -11, -12 (no ROW of bytes))");
        DoorsForThree x = three();
        Due.bytes(x, 0, 0);
        int[] whats = {-1, 2, MIN, MAX};
        for (int what : whats) {
            t.edge("what " + what, x.guard(0, 1, 0, what), -1);
        }
        int[] rules = {-1, 5, MIN, MAX};
        for (int rule : rules) {
            t.edge("RULE " + rule, x.guard(0, 1, rule, 0), -1);
        }
        int[] days = {0, 25, -1, MIN, MAX};
        for (int day : days) {
            t.edge("DAY " + day, x.guard(0, day, 0, 0), -1);
        }
        t.edge("DAY 24", x.guard(0, 24, 4, 1), 0);
        t.edge("BAD ahead of -11: what 2", x.guard(3, 1, 0, 2), -1);
        t.edge("BAD ahead of -11: DAY 0", x.guard(3, 0, 0, 0), -1);
        t.edge("BAD ahead of -11: RULE 5", x.guard(3, 1, 5, 0), -1);
        x.row(4, 2, 2);
        t.edge("BAD ahead of -12: RULE -1", x.guard(4, 1, -1, 0), -1);
    }

    private static int judged(DoorsForThree x, int rule, int... bytes) {
        Due.bytes(x, 0, bytes);
        return x.judge(0, rule);
    }

    private static void judgedFirst() {
        t.says("JUDGED by a RULE: the first that is not so");
        DoorsForThree x = Due.alike(4, 2);
        t.edge("all so", judged(x, TURNS, 0, 1, 0, 1), -2);
        t.edge("a part of them", judged(x, TURNS, 0, 1), -2);
        t.edge("an empty ROW", judged(x, TURNS), -2);
        t.edge("the first", judged(x, TURNS, 1, 0, 1, 0), 0);
        t.edge("the second", judged(x, TURNS, 0, 0, 1, 0), 1);
        t.edge("the last", judged(x, TURNS, 0, 1, 0, 0), 3);
        t.edge("there and back", judged(x, BACKWARDS, 0, 1, 1, 0), -2);
        t.edge("there and back, by turns", judged(x, TURNS, 0, 1, 1, 0), 2);
        t.edge("all twelve", judged(Due.alike(12, 5), TURNS, 0, 1, 2, 3, 4, 0, 1, 2, 3, 4, 0, 1), -2);
    }

    private static void judgedNotKnown() {
        t.says("DOOR by DOOR (from 0 on) whose it was (-1: not known)");
        DoorsForThree x = Due.alike(4, 2);
        t.edge("none known", judged(x, TURNS, -1, -1, -1, -1), -2);
        t.edge("the others so", judged(x, TURNS, -1, 1, -1, 1), -2);
        t.edge("the last not so", judged(x, TURNS, -1, 1, -1, 0), 3);
        t.edge("255 is the byte -1", judged(x, TURNS, 255), -2);
        t.edge("no CHILDREN", judged(Due.alike(2, 0), TURNS, -1, -1), -2);
    }

    private static void judgedNoneSuch() {
        t.says("the first that is not so (none such, beyond the DOORS, too)");
        DoorsForThree x = Due.alike(4, 2);
        t.edge("child 2", judged(x, TURNS, 0, 2), 1);
        t.edge("child -2", judged(x, TURNS, 0, -2), 1);
        t.edge("child 127", judged(x, TURNS, 127), 0);
        t.edge("child -128", judged(x, TURNS, -128), 0);
        t.edge("child 5", judged(Due.alike(12, 5), TURNS, 0, 1, 2, 3, 4, 5), 5);
        t.edge("no CHILDREN at all", judged(Due.alike(2, 0), TURNS, -1, 0), 1);
    }

    private static void judgedBeyond() {
        t.says("the first that is not so (none such, beyond the DOORS, too)");
        DoorsForThree x = Due.alike(2, 2);
        t.edge("a child", judged(x, TURNS, 0, 1, 0), 2);
        t.edge("not known", judged(x, TURNS, 0, 1, -1), 2);
        t.edge("the first beyond", judged(x, TURNS, -1, -1, -1, -1, -1), 2);
        t.edge("one not so ahead", judged(x, TURNS, 1, 1, -1), 0);
        t.edge("a calendar without DOORS", judged(Due.alike(0, 2), TURNS, -1), 0);
        t.edge("the thirteenth", judged(Due.alike(12, 1), TURNS, 0, 0, 0, 0, 0, 0, 0, 0, 0, 0, 0, 0, 0), 12);
        DoorsForThree y = Due.alike(12, 1);
        y.row(0, 0, 60);
        t.edge("sixty", y.judge(0, TURNS), 12);
    }

    private static void judgeNumbers() {
        t.says("`int judge(int shelf, int rule)`: JUDGED. NOT.");
        DoorsForThree x = Due.alike(2, 2);
        Due.bytes(x, 0, 0);
        int[] rules = {-1, 5, MIN, MAX};
        for (int rule : rules) {
            t.edge("RULE " + rule, x.judge(0, rule), -1);
            t.edge("BAD ahead of -11, RULE " + rule, x.judge(1, rule), -1);
        }
        for (int rule = 0; rule < 5; rule++) {
            t.edge("RULE " + rule, x.judge(0, rule), -2);
        }
    }

    private static void byWhatBits() {
        t.says("BY WHAT: which RULES (bits) make it so.");
        DoorsForThree x = new DoorsForThree();
        Due.doors(x, 1, 7, 1, 2, 0, 2, 3, 7, 9);
        Due.children(x, 9, 0, 10, 7);
        // by turns 0 1 0; by age 1 0 1; there and back 0 1 1; by worth 1 0 1; by need 0 1 0
        int[][] rows = {{0, 1, 0}, {1, 0, 1}, {0, 1, 1}, {-1, 1, -1}, {-1, -1, 1}, {0}, {1}, {}, {-1, -1, -1}, {-1, -1, -1, -1}, {2}, {1, 1}};
        int[] due = {1 + 16, 2 + 8, 4, 1 + 4 + 16, 2 + 4 + 8, 1 + 4 + 16, 2 + 8, 31, 31, 0, 0, 0};
        for (int i = 0; i < rows.length; i++) {
            Due.bytes(x, 0, rows[i]);
            t.edge("row " + i, x.byWhat(0), due[i]);
        }
        DoorsForThree y = Due.alike(2, 0);
        Due.bytes(y, 0, -1, -1);
        t.edge("no CHILDREN, not known", y.byWhat(0), 31);
        Due.bytes(y, 0, 0);
        t.edge("no CHILDREN, told", y.byWhat(0), 0);
    }

    private static void byWhatNumbers() {
        t.says("`int byWhat(int shelf)`: BY WHAT: bits.");
        DoorsForThree x = Due.alike(2, 2);
        int[] shelves = {-1, 6, MIN, MAX};
        for (int shelf : shelves) {
            t.edge("SHELF " + shelf, x.byWhat(shelf), -1);
        }
        Due.bytes(x, 5, 0);
        t.edge("SHELF 5", x.byWhat(5), 31);
    }

    private static void secondSizes() {
        t.says("SECOND: each DOOR comes once more, of SIZE s (1 .. 9), all else like it");
        DoorsForThree x = Due.alike(1, 2);
        x.mend(0, 2, 4);
        for (int s = 1; s <= 9; s++) {
            // 12 for the first, 3 s for the second
            t.edge("SIZE " + s, x.second(TURNS, s), Math.abs(12 - 3 * s));
        }
        x.mend(1, 4, 7);
        t.edge("like it in WHAT: 12, and 3 and 4", x.second(TURNS, 1), 5);
        Due.law(x, "d*s+w");
        t.edge("like it in DAY: 20, and 10 and 1", x.second(TURNS, 2), 9);
        Due.awayFrom(x, 1, 5, 5);
        Due.law(x, "s*4+n*3");
        t.edge("EATEN a day late: 16, and 4 and 3", x.second(TURNS, 1), 9);
    }

    private static void secondGoesOn() {
        t.says("given by the same RULE right behind all others, by DAY again (turns, all till then going on)");
        // two turns of three: 0 1 2 0, then 1 2 0 1
        DoorsForThree x = Due.alike(4, 3);
        t.edge("turns go on: 9, 9, 6", x.second(TURNS, 1), 3);
        t.edge("9 each and 9 more twice", x.second(TURNS, 3), 9);
        // 0 1 2 2, then 1 0 0 1: 3 and 18, 3 and 18, 6
        t.edge("there and back goes on", x.second(BACKWARDS, 3), 15);
        // by need 3 3 3, then 6; 12 for 1, 12 for 2, 15 for 0, then 21 for 1
        t.edge("all till then goes on", x.second(NEED, 3), 9);
        t.edge("the giving stays", x.giving(TURNS, 1), 12);
        DoorsForThree y = new DoorsForThree();
        Due.doors(y, 9, 0, 1, 2, 1, 1);
        Due.children(y, 9, 0, 9, 7);
        // DOOR 1 to the first, DOOR 0 to the second; again so: 3 and 3, 3 and 3
        t.edge("by DAY again", y.second(TURNS, 1), 0);
        y.mend(1, 4, 0);
        t.edge("by DAY again, what it likes", y.second(TURNS, 1), 8);
    }

    private static void secondNobody() {
        t.says("how unfair both are together");
        for (int rule = 0; rule < 5; rule++) {
            t.edge("no CHILDREN", Due.alike(3, 0).second(rule, 9), 0);
            t.edge("no DOORS", Due.alike(0, 3).second(rule, 9), 0);
            t.edge("one child", Due.alike(3, 1).second(rule, 9), 0);
            t.edge("twelve more", Due.alike(12, 5).second(rule, 1), 3);
        }
    }

    private static void secondNumbers() {
        t.says("`int second(int rule, int s)`: SECOND of SIZE s. BAD.");
        DoorsForThree x = Due.alike(3, 2);
        int[] sizes = {0, 10, -1, MIN, MAX};
        for (int s : sizes) {
            t.edge("SIZE " + s, x.second(0, s), -1);
        }
        int[] rules = {-1, 5, MIN, MAX};
        for (int rule : rules) {
            t.edge("RULE " + rule, x.second(rule, 1), -1);
        }
    }

    /** By turns each child has one DOOR, whose WHAT is its number. */
    private static DoorsForThree oneEach(int... likes) {
        DoorsForThree x = new DoorsForThree();
        for (int i = 0; i < likes.length; i++) {
            x.door(1 + i, i);
            x.child(9, likes[i]);
        }
        return x;
    }

    private static void pairsOfLikeOnes() {
        t.says("(by which both together have most more; of like ones the first): 10 times the lesser and the other");
        t.edge("0 and 1", oneEach(1, 0, 7, 7).pairs(TURNS, 0), 1);
        t.edge("0 and 3", oneEach(3, 7, 7, 0).pairs(TURNS, 0), 3);
        t.edge("3 and 4", oneEach(7, 7, 7, 4, 3).pairs(TURNS, 0), 34);
        t.edge("0 and 1 ahead of 2 and 3", oneEach(1, 0, 3, 2).pairs(TURNS, 0), 1);
        t.edge("0 and 3 ahead of 1 and 2", oneEach(3, 2, 1, 0).pairs(TURNS, 0), 3);
        t.edge("0 and 2 ahead of 1 and 3", oneEach(2, 3, 0, 1).pairs(TURNS, 0), 2);
        t.edge("more goes ahead of first", oneEach(1, 7, 3, 2).pairs(TURNS, 0), 23);
        t.edge("more by that", oneEach(1, 7, 3, 2).pairs(TURNS, 1), 8);
    }

    private static void pairsMore() {
        t.says("10 times the lesser and the other; how much more; NOT: none is more");
        DoorsForThree x = oneEach(1, 7);
        t.edge("4 more for both together", x.pairs(TURNS, 0), 1);
        t.edge("4", x.pairs(TURNS, 1), 4);
        Due.law(x, "5+w");
        t.edge("1 more", x.pairs(TURNS, 0), 1);
        t.edge("1", x.pairs(TURNS, 1), 1);
        Due.law(x, "5");
        t.edge("as much", x.pairs(TURNS, 0), -2);
        t.edge("0", x.pairs(TURNS, 1), 0);
        Due.law(x, "5-w");
        t.edge("less", x.pairs(TURNS, 0), -2);
        t.edge("less is 0 more", x.pairs(TURNS, 1), 0);
        Due.law(x, "(a=9)*w*9+(a=8)*(d=2)*8+1");
        x.mend(1, 3, 8);
        // the first would have 9 more, the second 8 less
        t.edge("one has more than the other loses", x.pairs(TURNS, 1), 1);
    }

    private static void pairsNobody() {
        t.says("NOT: none is more");
        for (int children = 0; children <= 1; children++) {
            for (int rule = 0; rule < 5; rule++) {
                t.edge(children + " CHILDREN", Due.alike(4, children).pairs(rule, 0), -2);
                t.edge(children + " CHILDREN, how much", Due.alike(4, children).pairs(rule, 1), 0);
            }
        }
        t.edge("no DOORS", Due.alike(0, 5).pairs(0, 0), -2);
        t.edge("one has nothing, one all: as much", Due.alike(1, 2).pairs(0, 0), -2);
    }

    private static void pairsNumbers() {
        t.says("PAIRS: which (what 0; NOT), how much more (1; 0). BAD.");
        DoorsForThree x = oneEach(1, 0);
        int[] whats = {-1, 2, MIN, MAX};
        for (int what : whats) {
            t.edge("what " + what, x.pairs(0, what), -1);
        }
        int[] rules = {-1, 5, MIN, MAX};
        for (int rule : rules) {
            t.edge("RULE " + rule, x.pairs(rule, 0), -1);
        }
    }

    /** z, worked out in longs: what each of so many draws gives. */
    private static int[] draws(int seed, int many, int children) {
        int[] drawn = new int[many];
        long z = seed & 0xffffffffL;
        for (int i = 0; i < many; i++) {
            z = (z * 1103515245L + 12345L) & 0xffffffffL;
            drawn[i] = (int) ((z / 256) % children);
        }
        return drawn;
    }

    /** How unfair n Decembers of so many like DOORS (3 each) are together, and how often child has most. */
    private static int[] alikeDrawn(int seed, int n, int doors, int children, int child) {
        int[] drawn = draws(seed, n * doors, children);
        int unfair = 0, often = 0;
        for (int december = 0; december < n; december++) {
            int[] has = new int[children];
            for (int i = 0; i < doors; i++) {
                has[drawn[december * doors + i]] += 3;
            }
            int most = 0, least = MAX, with = 0;
            for (int h : has) {
                most = Math.max(most, h);
                least = Math.min(least, h);
            }
            for (int h : has) {
                with += h == most ? 1 : 0;
            }
            unfair += most - least;
            often += has[child] == most && with == 1 ? 1 : 0;
        }
        return new int[] {unfair, often};
    }

    private static void drawnNumbers() {
        t.says("DRAWN: n Decembers (1 .. 50) by a SEED");
        DoorsForThree x = Due.alike(3, 2);
        for (int n = 1; n <= 50; n++) {
            t.edge("n " + n, x.drawn(77, n, -1), alikeDrawn(77, n, 3, 2, 0)[0]);
        }
        int[] ns = {0, 51, -1, MIN, MAX};
        for (int n : ns) {
            t.edge("n " + n, x.drawn(77, n, -1), -1);
        }
        t.says("DRAWN: how unfair (child -1), how often one has most. BAD.");
        int[] children = {-2, 2, MIN, MAX};
        for (int child : children) {
            t.edge("child " + child, x.drawn(77, 1, child), -1);
        }
        t.edge("child 1", x.drawn(77, 50, 1), alikeDrawn(77, 50, 3, 2, 1)[1]);
    }

    private static void drawnSeeds() {
        t.says("z = z * 1103515245 + 12345 (an int; SEED at first) ahead of each DOOR");
        int[] seeds = {0, 1, -1, 12345, MAX, MIN, MAX - 1, MIN + 1, -12345};
        for (int seed : seeds) {
            for (int children = 1; children <= 5; children++) {
                DoorsForThree x = Due.alike(7, children);
                for (int child = 0; child < children; child++) {
                    int[] due = alikeDrawn(seed, 20, 7, children, child);
                    t.edge("seed " + seed + ", " + children + ", how unfair", x.drawn(seed, 20, -1), due[0]);
                    t.edge("seed " + seed + ", " + children + ", child " + child, x.drawn(seed, 20, child), due[1]);
                }
            }
        }
        t.edge("full, fifty", Due.alike(12, 5).drawn(MIN, 50, -1), alikeDrawn(MIN, 50, 12, 5, 0)[0]);
    }

    private static void drawnByDay() {
        t.says("ahead of each DOOR (by DAY, as above): it goes to the child (z >>> 8) % how many");
        for (int seed = 0; seed < 20; seed++) {
            int[] drawn = draws(seed, 3, 2);
            DoorsForThree x = new DoorsForThree();
            Due.doors(x, 9, 7, 1, 2, 7, 3, 9, 7, 9);
            Due.children(x, 9, 0, 9, 0);
            // by DAY the second, the first, the third
            int[] has = new int[2];
            has[drawn[0]] += 9;
            has[drawn[1]] += 3;
            has[drawn[2]] += 27;
            t.edge("seed " + seed, x.drawn(seed, 1, -1), Math.abs(has[0] - has[1]));
            Due.awayFrom(x, 1, 9, 24);
            has = new int[2];
            has[drawn[0]] += 9;
            has[drawn[1]] += drawn[1] == 0 ? 3 : 0;
            has[drawn[2]] += drawn[2] == 0 ? 27 : 0;
            t.edge("seed " + seed + ", as EATEN", x.drawn(seed, 1, -1), Math.abs(has[0] - has[1]));
        }
    }

    private static void drawnMost() {
        t.says("how often a told child has most (alike: not)");
        DoorsForThree x = Due.alike(2, 2);
        // of 2 DOORS: both to one, or one each
        for (int seed = 0; seed < 12; seed++) {
            int[] drawn = draws(seed, 2, 2);
            boolean both = drawn[0] == drawn[1];
            t.edge("seed " + seed + ", the first", x.drawn(seed, 1, 0), both && drawn[0] == 0 ? 1 : 0);
            t.edge("seed " + seed + ", the second", x.drawn(seed, 1, 1), both && drawn[0] == 1 ? 1 : 0);
        }
        t.edge("all are alike without DOORS", Due.alike(0, 2).drawn(5, 50, 1), 0);
        t.edge("the only child always has", Due.alike(3, 1).drawn(5, 50, 0), 50);
        t.edge("the only child, without DOORS too", Due.alike(0, 1).drawn(5, 50, 0), 50);
        DoorsForThree y = Due.alike(3, 2);
        Due.law(y, "0");
        t.edge("all are WORTH nothing", y.drawn(5, 50, 0), 0);
        Due.law(y, "n");
        Due.awayFrom(y, 0, 5, 23);
        int[] drawn = draws(5, 3, 2);
        t.edge("one alone has something", y.drawn(5, 1, 0), drawn[0] * drawn[1] * drawn[2] == 0 ? 1 : 0);
    }

    private static void drawnNobody() {
        t.says("it goes to the child (z >>> 8) % how many (no CHILDREN: nothing)");
        DoorsForThree x = Due.alike(4, 0);
        t.edge("how unfair", x.drawn(5, 50, -1), 0);
        t.edge("child 0: BAD", x.drawn(5, 50, 0), -1);
        t.edge("n 0: BAD", x.drawn(5, 0, -1), -1);
        t.edge("neither DOORS", Due.alike(0, 0).drawn(5, 1, -1), 0);
    }
}
