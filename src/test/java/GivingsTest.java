/** Promises 10 to 18: givings by rules, fairness, envy, swaps, the big one divided. */
public final class GivingsTest {
    private static final Due t = new Due();

    public static void main(String[] args) {
        promise10();
        promise11();
        promise12();
        promise13();
        promise14();
        promise15();
        promise16();
        promise17();
        promise18();
        allFull();
        t.end();
    }

    /** Twelve DOORS and five CHILDREN: two of 3 each, and two more for the first two. */
    private static void allFull() {
        DoorsForThree x = Due.alike(12, 5);
        for (int rule = 0; rule < 5; rule++) {
            t.due("12: full, how unfair", x.giving(rule, 0), 3);
            t.due("12: full, together", x.giving(rule, 1), 36);
            t.due("16: full", x.swap(rule), -2);
            t.due("17: full", x.swaps(rule, 1), 3);
        }
        t.due("12: full, ENVY of those with less", x.giving(0, 2), 4 + 8 + 16);
        t.due("12: full, ENVY there and back", x.giving(2, 2), 4 + 8 + 16);
        t.due("13: full", x.bestRule(0), 0);
        t.due("14: full", x.fairest(11), -5);
        t.due("15: full", x.envyFree(), -5);
        t.due("11: full", x.all(44), 6);
        t.due("10: full", x.whose(411), 1);
        t.due("18: full, the first has a part of nothing", x.big(0, 0), 6);
        t.due("26: full", x.second(0, 1), 3);
        t.due("27: full", x.pairs(0, 0), -2);
        t.due("28: full", x.drawn(9, 50, 4) >= 0);
        t.due("19: full", x.away(44, 0), 0);
    }

    /**
     * By DAY: 1, 4, 0, 2, 3. WORTH to the three: door 0: 7 3 3; 1: 6 10 6; 2: 3 3 7; 3: 13 9 9; 4: 3 7 3.
     */
    private static DoorsForThree calendar() {
        DoorsForThree x = new DoorsForThree();
        Due.doors(x, 3, 0, 1, 1, 1, 2, 3, 2, 1, 8, 0, 3, 2, 1, 1);
        Due.children(x, 7, 0, 9, 1, 9, 2);
        return x;
    }

    private static void promise10() {
        DoorsForThree x = calendar();
        int[][] given = {{2, 0, 0, 1, 1}, {0, 1, 1, 2, 2}, {2, 0, 2, 1, 1}, {0, 1, 2, 0, 0}, {2, 0, 2, 0, 1}};
        for (int rule = 0; rule < 5; rule++) {
            for (int door = 0; door < 5; door++) {
                t.due("10: whose(" + (100 * rule + door) + ")", x.whose(100 * rule + door), given[rule][door]);
            }
        }
        t.due("10: no such DOOR", x.whose(5), -1);
        t.due("10: no such RULE", x.whose(500), -1);
        t.due("10: below", x.whose(-1), -1);
        t.due("10: far below", x.whose(Integer.MIN_VALUE), -1);
        DoorsForThree y = new DoorsForThree();
        t.due("10: no DOORS", y.whose(0), -1);
        y.door(1, 1);
        t.due("10: no CHILDREN", y.whose(400), -2);
        DoorsForThree z = Due.alike(8, 3);
        int[] turns = {0, 1, 2, 0, 1, 2, 0, 1};
        int[] back = {0, 1, 2, 2, 1, 0, 0, 1};
        for (int door = 0; door < 8; door++) {
            t.due("10: by turns", z.whose(door), turns[door]);
            t.due("10: there and back", z.whose(200 + door), back[door]);
        }
        z.mend(2, 3, 10);
        t.due("10: the eldest first", z.whose(100), 2);
        t.due("10: then of like ones by numbers", z.whose(101), 0);
        z.mend(7, 0, 4);
        t.due("10: by DAY, as it is now", z.whose(7), 0);
        DoorsForThree v = Due.alike(5, 0);
        Due.children(v, 5, 0, 7, 0, 9, 0, 8, 0, 8, 0);
        int[] eldest = {2, 3, 4, 1, 0};
        for (int door = 0; door < 5; door++) {
            t.due("10: from the eldest on", v.whose(100 + door), eldest[door]);
        }
        v.mend(1, 3, 6);
        Due.law(v, "a");
        t.due("10: number and law anew", v.all(11), 6);
        v.mend(1, 3, 18);
        Due.law(v, "a*2");
        t.due("10: number and law anew again", v.all(11), 36);
        // child 1 is away on DAY 9 and eats the second a day late (6), so it goes to child 0 by worth
        DoorsForThree w = new DoorsForThree();
        Due.doors(w, 9, 0, 1);
        Due.children(w, 9, 1, 9, 0);
        t.due("10: to whom it is worth most", w.whose(300), 1);
        Due.awayFrom(w, 1, 9, 24);
        t.due("10: by what it is WORTH as EATEN", w.whose(300), 0);
        t.due("10: by need the least of like ones", w.whose(400), 0);
    }

    private static void promise11() {
        DoorsForThree x = calendar();
        int[][] alls = {{9, 16, 3}, {7, 13, 12}, {6, 16, 10}, {23, 10, 7}, {19, 7, 10}};
        for (int rule = 0; rule < 5; rule++) {
            for (int child = 0; child < 3; child++) {
                t.due("11: all(" + (10 * rule + child) + ")", x.all(10 * rule + child), alls[rule][child]);
            }
        }
        t.due("11: no such child", x.all(3), -1);
        t.due("11: child 9", x.all(9), -1);
        t.due("11: no such RULE", x.all(50), -1);
        t.due("11: below", x.all(-1), -1);
        Due.awayFrom(x, 1, 7, 9);
        t.due("11: two days late", x.all(1), 14);
        Due.awayFrom(x, 1, 7, 23);
        t.due("11: on DAY 24, 16 days late", x.all(1), 7);
        Due.law(x, "s*4+w*a");
        t.due("11: by the law", x.all(1), 4 + 9 + 12);
        Due.awayFrom(x, 1, 7, 24);
        t.due("11: never", x.all(1), 4 + 9);
        Due.awayFrom(x, 1, 9, 8);
        t.due("11: FROM behind TILL is no time", x.all(1), 4 + 9 + 12);
    }

    private static void promise12() {
        DoorsForThree x = calendar();
        int[] unfair = {13, 6, 10, 16, 12};
        int[] together = {28, 32, 32, 40, 36};
        for (int rule = 0; rule < 5; rule++) {
            t.due("12: how unfair by " + rule, x.giving(rule, 0), unfair[rule]);
            t.due("12: together by " + rule, x.giving(rule, 1), together[rule]);
        }
        t.due("12: ENVY by turns", x.giving(0, 2), 5);
        // by age: 0 has 7 and would have 6 + 3 of 1's; 1 has 13 and would have 9 + 7 of 2's; 2 has 12 and would have 6 + 7 of 1's
        t.due("12: ENVY by age", x.giving(1, 2), 7);
        // by worth: 1 has 10 and would have 3 + 9 + 7 of 0's; 2 has 7 and would have 3 + 9 + 3
        t.due("12: ENVY by worth", x.giving(3, 2), 6);
        t.due("12: RULE 5", x.giving(5, 0), -1);
        t.due("12: RULE -1", x.giving(-1, 0), -1);
        t.due("12: what 3", x.giving(0, 3), -1);
        t.due("12: what -1", x.giving(0, -1), -1);
        t.due("12: nobody envies alike ones", Due.alike(6, 3).giving(0, 2), 0);
        t.due("12: no CHILDREN", Due.alike(6, 0).giving(3, 0), 0);
        t.due("12: no DOORS", Due.alike(0, 3).giving(3, 0), 0);
    }

    private static void promise13() {
        DoorsForThree x = calendar();
        t.due("13: BEST RULE", x.bestRule(0), 1);
        t.due("13: how unfair", x.bestRule(1), 6);
        t.due("13: what 2", x.bestRule(2), -1);
        t.due("13: what -1", x.bestRule(-1), -1);
        DoorsForThree y = new DoorsForThree();
        Due.doors(y, 1, 1, 1, 2, 0, 1);
        Due.children(y, 5, 0, 9, 1);
        t.due("13: of like ones the most together", y.bestRule(0), 1);
        t.due("13: as unfair as others", y.bestRule(1), 0);
        t.due("13: then the least", Due.alike(4, 2).bestRule(0), 0);
        DoorsForThree z = Due.alike(1, 2);
        z.mend(1, 3, 10);
        Due.law(z, "14-a");
        t.due("13: less unfair by 1", z.bestRule(0), 1);
        t.due("13: so unfair", z.bestRule(1), 4);
        t.due("13: no CHILDREN", Due.alike(4, 0).bestRule(0), 0);
    }

    private static void promise14() {
        DoorsForThree x = new DoorsForThree();
        Due.doors(x, 1, 1, 1, 2, 0, 1);
        t.due("14: no CHILDREN", x.fairest(-1), -2);
        t.due("14: BAD ahead of NOT", x.fairest(2), -1);
        Due.children(x, 5, 0, 9, 1);
        t.due("14: how unfair", x.fairest(-1), 0);
        t.due("14: together, the most of like ones", x.fairest(-2), 14);
        t.due("14: whose the first is", x.fairest(0), 1);
        t.due("14: whose the second is", x.fairest(1), 0);
        t.due("14: -3", x.fairest(-3), -1);
        x.mend(1, 4, 0);
        t.due("14: anew when a number is another", x.fairest(0), 0);
        DoorsForThree y = Due.alike(8, 3);
        t.due("14: eight alike", y.fairest(-1), 3);
        t.due("14: eight alike together", y.fairest(-2), 24);
        int[] first = {0, 0, 0, 1, 1, 1, 2, 2};
        for (int door = 0; door < 8; door++) {
            t.due("14: the first DOOR by DOOR", y.fairest(door), first[door]);
        }
        y.child(9, 0);
        t.due("14: four CHILDREN", y.fairest(-1), -5);
        t.due("14: BAD ahead of STATE", y.fairest(8), -1);
        t.due("14: nine DOORS", Due.alike(9, 3).fairest(-2), -5);
        t.due("14: nine DOORS, no CHILDREN", Due.alike(9, 0).fairest(-2), -5);
        t.due("14: no DOORS", Due.alike(0, 1).fairest(-1), 0);
        t.due("14: no DOORS together", Due.alike(0, 1).fairest(-2), 0);
        t.due("14: no such DOOR", Due.alike(0, 1).fairest(0), -1);
        DoorsForThree z = Due.alike(2, 2);
        Due.awayFrom(z, 0, 5, 24);
        t.due("14: as EATEN", z.fairest(-1), 0);
        t.due("14: one never eats", z.fairest(-2), 0);
        Due.law(z, "4;n");
        t.due("14: by the law", z.fairest(-1), 0);
        Due.awayFrom(z, 0, 0, 24);
        t.due("14: by the law, one each", z.fairest(-2), 8);
    }

    private static void promise15() {
        DoorsForThree x = new DoorsForThree();
        t.due("15: no CHILDREN", x.envyFree(), -2);
        Due.doors(x, 1, 1, 1, 2, 0, 1);
        Due.children(x, 5, 0, 9, 1);
        t.due("15: each has the liked one", x.envyFree(), 1);
        t.due("15: six alike for three", Due.alike(6, 3).envyFree(), 90);
        t.due("15: four alike for two", Due.alike(4, 2).envyFree(), 6);
        t.due("15: three alike for two", Due.alike(3, 2).envyFree(), 0);
        t.due("15: all for one", Due.alike(8, 1).envyFree(), 1);
        t.due("15: no DOORS", Due.alike(0, 3).envyFree(), 1);
        t.due("15: four CHILDREN", Due.alike(4, 4).envyFree(), -5);
        t.due("15: nine DOORS", Due.alike(9, 2).envyFree(), -5);
        DoorsForThree y = Due.alike(3, 2);
        Due.law(y, "0");
        t.due("15: all are worth nothing", y.envyFree(), 8);
        Due.law(y, "1");
        t.due("15: anew by another law", y.envyFree(), 0);
        y.door(1, 1);
        t.due("15: anew with another DOOR", y.envyFree(), 6);
        t.due("15: asked again", y.envyFree(), 6);
        t.due("15: the FAIREST of these", y.fairest(3), 1);
    }

    private static void promise16() {
        DoorsForThree x = calendar();
        t.due("16: by turns 0 and 1", x.swap(0), 1);
        t.due("16: by age 2 and 4", x.swap(1), 44);
        t.due("16: by worth none", x.swap(3), -2);
        t.due("16: RULE 5", x.swap(5), -1);
        t.due("16: RULE -1", x.swap(-1), -1);
        t.due("16: alike ones bring nothing more", Due.alike(6, 3).swap(0), -2);
        t.due("16: no CHILDREN", Due.alike(6, 0).swap(0), -2);
        DoorsForThree z = Due.alike(2, 2);
        z.mend(0, 1, 1);
        z.mend(1, 4, 1);
        t.due("16: one has more, the other as much", z.swap(0), -2);
        z.mend(0, 4, 1);
        z.mend(1, 4, 0);
        t.due("16: the other has more, the one less", z.swap(0), -2);
        z.mend(0, 1, 0);
        z.mend(1, 1, 1);
        t.due("16: both have more", z.swap(0), 1);
        z.mend(1, 1, 0);
        t.due("16: the other has as much", z.swap(0), -2);
        DoorsForThree y = Due.alike(12, 2);
        y.mend(10, 1, 1);
        y.mend(11, 1, 2);
        y.mend(0, 4, 2);
        y.mend(1, 4, 1);
        t.due("16: 20 times the lesser and the other", y.swap(0), 211);
    }

    private static void promise17() {
        DoorsForThree x = calendar();
        t.due("17: three of them", x.swaps(0, 0), 3);
        t.due("17: how unfair then", x.swaps(0, 1), 13);
        t.due("17: the giving itself stays", x.whose(0), 2);
        t.due("17: none", x.swaps(3, 0), 0);
        t.due("17: none, how unfair", x.swaps(3, 1), 16);
        t.due("17: RULE 5", x.swaps(5, 0), -1);
        t.due("17: what 2", x.swaps(0, 2), -1);
        t.due("17: no CHILDREN", Due.alike(3, 0).swaps(0, 1), 0);
    }

    private static void promise18() {
        DoorsForThree x = calendar();
        // door 3 of SIZE 3 is child 1's: then 9, 7, 3, and a part of SIZE 1: 7, 3, 3
        t.due("18: how unfair", x.big(0, -1), 10);
        t.due("18: of the first", x.big(0, 0), 16);
        t.due("18: of the second", x.big(0, 1), 10);
        t.due("18: of the third", x.big(0, 2), 6);
        t.due("18: by worth", x.big(3, 0), 17);
        Due.awayFrom(x, 0, 8, 9);
        t.due("18: each EATS its part as its own", x.big(0, 0), 14);
        Due.awayFrom(x, 0, 0, 0);
        x.mend(0, 2, 9);
        // door 0 of SIZE 9 is child 2's: 9 of the others, and a part of SIZE 3 that child 0 likes
        t.due("18: the first is the greatest", x.big(0, 0), 22);
        x.mend(0, 2, 1);
        x.mend(1, 2, 3);
        // of like ones door 1: child 0 has 3 of door 2, and a part of SIZE 1 that it does not like
        t.due("18: of like ones the least", x.big(0, 0), 6);
        x.mend(1, 2, 2);
        x.mend(3, 2, 2);
        Due.law(x, "7+s");
        // door 1 of SIZE 2 is divided by three: SIZE 0 is WORTH 0
        t.due("18: SIZE 0 is WORTH 0", x.big(0, 0), 8);
        t.due("18: no such child", x.big(0, 3), -1);
        t.due("18: child -2", x.big(0, -2), -1);
        t.due("18: RULE 5", x.big(5, -1), -1);
        t.due("18: no DOORS", Due.alike(0, 2).big(0, 1), -2);
        t.due("18: no CHILDREN", Due.alike(2, 0).big(0, -1), -2);
        t.due("18: no CHILDREN, child 0", Due.alike(2, 0).big(0, 0), -1);
    }
}
