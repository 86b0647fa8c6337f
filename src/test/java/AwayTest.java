/** Promises 19 to 21: away, gathering, waiting. */
public final class AwayTest {
    private static final Due t = new Due();

    public static void main(String[] args) {
        promise19();
        promise20();
        promise21();
        t.end();
    }

    private static void bad(String call, int answer) {
        t.due(call, answer, -1);
    }

    private static void promise19() {
        DoorsForThree x = new DoorsForThree();
        Due.doors(x, 4, 0, 1, 5, 0, 1, 9, 0, 1, 10, 0, 1, 11, 0, 1, 12, 0, 1);
        Due.children(x, 9, 1, 8, 1);
        Due.awayFrom(x, 1, 5, 10);
        t.due("19: from the one to the other", x.away(1, 0), 3);
        t.due("19: the RULE does not matter", x.away(21, 0), 3);
        t.due("19: the other is never away", x.away(0, 0), 0);
        t.due("19: days of DAYS 5 and 10", x.away(1, 2), 6 + 1);
        t.due("19: all are eaten", x.away(1, 1), 0);
        // there and back: 0 1 1 0 0 1: DAYS 5, 9, 12
        t.due("19: days by another RULE", x.away(21, 2), 6 + 2);
        x.mend(1, 7, 23);
        t.due("19: till DAY 23", x.away(1, 2), 19 + 14 + 12);
        t.due("19: on DAY 24 all are eaten", x.away(1, 1), 0);
        x.mend(1, 7, 24);
        t.due("19: never", x.away(1, 1), 3);
        t.due("19: what is never eaten is not late", x.away(1, 2), 0);
        t.due("19: all but the first", x.away(1, 0), 5);
        x.mend(1, 6, 0);
        t.due("19: FROM 0 is never", x.away(1, 0), 0);
        DoorsForThree y = new DoorsForThree();
        Due.doors(y, 4, 0, 1, 5, 0, 1, 6, 0, 1);
        Due.children(y, 9, 1, 8, 1);
        Due.awayFrom(y, 0, 1, 5);
        Due.awayFrom(y, 1, 6, 24);
        t.due("19: away for the first", y.away(0, 0), 2);
        t.due("19: late for the first", y.away(0, 2), 2);
        t.due("19: none never", y.away(0, 1), 0);
        t.due("19: never, there and back", y.away(21, 1), 1);
        t.due("19: never, by turns", y.away(1, 1), 0);
        y.mend(0, 7, 24);
        t.due("19: the first and the third never", y.away(0, 1), 2);
        bad("19: what 3", x.away(1, 3));
        bad("19: what -1", x.away(1, -1));
        bad("19: no such child", x.away(2, 0));
        bad("19: no such RULE", x.away(51, 0));
        bad("19: below", x.away(-1, 0));
    }

    private static void promise20() {
        DoorsForThree x = new DoorsForThree();
        Due.doors(x, 20, 0, 3, 2, 0, 1, 4, 1, 2, 10, 0, 1, 22, 0, 1);
        Due.children(x, 9, 1);
        // by DAY: 2 (3), 4 (10: liked), 10 (3), 20 (9), 22 (3)
        t.due("20: at once", x.gather(0, 1), 28);
        t.due("20: two by two, the last on DAY 24", x.gather(0, 2), 1 + 10 + 0 + 9 + 1);
        t.due("20: three, and two on DAY 24", x.gather(0, 3), 0 + 4 + 3 + 5 + 1);
        t.due("20: five", x.gather(0, 5), 0 + 0 + 0 + 7 + 3);
        t.due("20: six: all on DAY 24", x.gather(0, 6), 0 + 0 + 0 + 5 + 1);
        t.due("20: nine", x.gather(0, 9), 6);
        t.due("20: the best", x.gather(0, 0), 1);
        Due.awayFrom(x, 0, 1, 24);
        t.due("20: being away does not matter", x.gather(0, 1), 28);
        Due.law(x, "n");
        t.due("20: late is good: two by two", x.gather(0, 2), 2 + 0 + 10 + 0 + 2);
        t.due("20: the best when late is good", x.gather(0, 0), 6);
        Due.law(x, "5");
        t.due("20: of like ones the least", x.gather(0, 0), 1);
        x.child(9, 0);
        t.due("20: its own by the RULE", x.gather(0, 4), 15);
        // child 0 never eats, so by need all go to it
        t.due("20: by need all", x.gather(40, 4), 25);
        t.due("20: none", x.gather(41, 4), 0);
        DoorsForThree y = new DoorsForThree();
        for (int day = 1; day <= 9; day++) {
            y.door(day, 0);
        }
        Due.children(y, 9, 1);
        Due.law(y, "n=8");
        t.due("20: the best is nine", y.gather(0, 0), 9);
        Due.law(y, "(n=1)*3+(n>4)");
        t.due("20: the best is two", y.gather(0, 0), 2);
        Due.law(y, "(n=2)*9+(n>20)");
        t.due("20: the best is three", y.gather(0, 0), 3);
        Due.law(y, "a");
        y.child(8, 1);
        t.due("20: by turns the other has four", y.gather(1, 0) + y.gather(1, 9), 1 + 4 * 8);
        t.due("20: there and back too", y.gather(21, 3), 4 * 8);
        t.due("20: by age the eldest has five", y.gather(10, 2), 5 * 9);
        bad("20: ten", x.gather(0, 10));
        bad("20: -1", x.gather(0, -1));
        bad("20: no such child", x.gather(2, 1));
        bad("20: no such RULE", x.gather(50, 1));
        bad("20: below", x.gather(-1, 1));
    }

    private static void promise21() {
        DoorsForThree x = new DoorsForThree();
        Due.doors(x, 17, 0, 1, 18, 0, 1, 24, 0, 1, 19, 0, 1);
        Due.children(x, 9, 1);
        t.due("21: 5 times 3 and 2", x.waits(0, 0), 17);
        t.due("21: those of a later DAY", x.waits(0, 1), 2 + 4 + 8);
        x.mend(0, 8, 1);
        t.due("21: SEEN", x.waits(0, 0), 15);
        t.due("21: all", x.waits(0, 1), 15);
        x.mend(0, 5, 0);
        t.due("21: not at all", x.waits(0, 0), 0);
        x.mend(0, 5, 9);
        t.due("21: 27 is 24", x.waits(0, 0), 24);
        t.due("21: none early", x.waits(0, 1), 0);
        x.mend(0, 5, 6);
        x.child(9, 1);
        t.due("21: its own by turns", x.waits(0, 1), 8);
        t.due("21: the other's by turns", x.waits(1, 0), 15);
        t.due("21: the other's bits", x.waits(1, 1), 2 + 4);
        t.due("21: there and back", x.waits(20, 1), 4);
        bad("21: what 2", x.waits(0, 2));
        bad("21: what -1", x.waits(0, -1));
        bad("21: no such child", x.waits(2, 0));
        bad("21: no such RULE", x.waits(50, 0));
        bad("21: below", x.waits(-1, 0));
    }
}
