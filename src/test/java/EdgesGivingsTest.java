/** Sections 1 and 2 of the document and promises 10 to 21, each sentence that names an edge: givings and what hangs on them. */
public final class EdgesGivingsTest {
    private static final int MIN = Integer.MIN_VALUE, MAX = Integer.MAX_VALUE;
    private static final int TURNS = 0, AGE = 1, BACKWARDS = 2, WORTH = 3, NEED = 4;
    private static final Due t = new Due();

    public static void main(String[] args) {
        eatenOnItsDay();
        eatenBehindTill();
        eatenNever();
        likeDaysByNumbers();
        turnsAgainAndAgain();
        eldestFirst();
        thereAndBack();
        worthOfLikeOnes();
        worthTillThen();
        needOfLikeOnes();
        oneChildHasAll();
        whoseNumbers();
        whoseNobody();
        allNumbers();
        givingNumbers();
        givingNobody();
        envyAbove();
        envyBits();
        bestRuleTies();
        bestRuleNumbers();
        fairestBounds();
        fairestTies();
        fairestNumbers();
        envyFreeBounds();
        envyFreeCounts();
        swapFirst();
        swapMore();
        swapUnlike();
        swapsTillNone();
        swapsMany();
        swapsNumbers();
        bigOfLikeOnes();
        bigCut();
        bigEaten();
        bigNumbers();
        awayDoors();
        awayNever();
        awayDays();
        awayNumbers();
        gatherAtOnce();
        gatherLeft();
        gatherLikeDays();
        gatherBest();
        gatherNumbers();
        waitsTill();
        waitsEarly();
        waitsNumbers();
        t.end();
    }

    private static void whose(DoorsForThree x, int rule, int... due) {
        for (int door = 0; door < due.length; door++) {
            t.edge("whose(" + (100 * rule + door) + ")", x.whose(100 * rule + door), due[door]);
        }
    }

    /** What the only child's only DOOR (DAY day, SIZE 9, liked) is WORTH as EATEN, by each RULE. */
    private static void eaten(int day, int from, int till, String law, int due) {
        DoorsForThree x = new DoorsForThree();
        Due.doors(x, day, 4, 9);
        x.child(9, 4);
        Due.awayFrom(x, 0, from, till);
        if (!law.isEmpty()) {
            Due.law(x, law);
        }
        for (int rule = 0; rule < 5; rule++) {
            t.edge("DAY " + day + ", away from " + from + " till " + till + ", law " + law + ", RULE " + rule, x.all(10 * rule), due);
        }
    }

    private static void eatenOnItsDay() {
        t.says("EATEN: on its DAY");
        eaten(10, 0, 0, "", 31);
        eaten(10, 11, 24, "", 31);
        eaten(10, 1, 9, "", 31);
        eaten(10, 10, 9, "", 31);
        eaten(10, 0, 24, "", 31);
        eaten(24, 1, 23, "", 31);
        eaten(1, 2, 24, "", 31);
        eaten(10, 11, 24, "n+1", 1);
    }

    private static void eatenBehindTill() {
        t.says("is the child away then: on the day behind TILL (n the days between), if that is 24 at most");
        eaten(10, 10, 10, "", 30);
        eaten(10, 1, 10, "", 30);
        eaten(10, 9, 11, "", 29);
        eaten(10, 10, 22, "", 18);
        eaten(10, 10, 23, "", 17);
        eaten(23, 23, 23, "", 30);
        eaten(1, 1, 23, "n", 23);
        eaten(1, 1, 1, "n", 1);
        eaten(10, 10, 23, "n", 14);
        // so late that nothing is left
        DoorsForThree x = Due.alike(1, 1);
        Due.awayFrom(x, 0, 5, 6);
        t.edge("3 less 2", x.all(0), 1);
        x.mend(0, 7, 7);
        t.edge("3 less 3", x.all(0), 0);
        x.mend(0, 7, 8);
        t.edge("3 less 4", x.all(0), 0);
    }

    private static void eatenNever() {
        t.says("else never (0)");
        eaten(10, 10, 24, "", 0);
        eaten(24, 24, 24, "", 0);
        eaten(1, 1, 24, "", 0);
        eaten(10, 10, 24, "50", 0);
        eaten(10, 10, 24, "n", 0);
        eaten(10, 10, 23, "50", 50);
    }

    private static void likeDaysByNumbers() {
        t.says("BY TURNS (0): DOORS by DAY (of like ones by numbers), child by child, again and again.");
        DoorsForThree x = new DoorsForThree();
        Due.doors(x, 5, 7, 1, 5, 7, 1, 1, 7, 1, 5, 7, 1, 24, 7, 1, 1, 7, 1);
        Due.children(x, 9, 0, 9, 0, 9, 0);
        // by DAY: 2, 5, 0, 1, 3, 4
        whose(x, TURNS, 2, 0, 0, 1, 2, 1);
        x.mend(5, 0, 2);
        whose(x, TURNS, 2, 0, 0, 1, 2, 1);
        x.mend(2, 0, 3);
        // by DAY: 5, 2, 0, 1, 3, 4
        whose(x, TURNS, 2, 0, 1, 1, 2, 0);
        DoorsForThree y = new DoorsForThree();
        for (int day = 12; day >= 1; day--) {
            y.door(day, 7);
        }
        Due.children(y, 9, 0, 9, 0, 9, 0, 9, 0, 9, 0);
        whose(y, TURNS, 1, 0, 4, 3, 2, 1, 0, 4, 3, 2, 1, 0);
    }

    private static void turnsAgainAndAgain() {
        t.says("child by child, again and again");
        whose(Due.alike(12, 1), TURNS, 0, 0, 0, 0, 0, 0, 0, 0, 0, 0, 0, 0);
        whose(Due.alike(12, 2), TURNS, 0, 1, 0, 1, 0, 1, 0, 1, 0, 1, 0, 1);
        whose(Due.alike(12, 5), TURNS, 0, 1, 2, 3, 4, 0, 1, 2, 3, 4, 0, 1);
        whose(Due.alike(2, 5), TURNS, 0, 1);
    }

    private static void eldestFirst() {
        t.says("BY AGE (1): likewise, the eldest first (of like ones by numbers).");
        DoorsForThree x = Due.alike(12, 0);
        Due.children(x, 9, 0, 10, 0, 9, 0, 10, 0, 9, 0);
        whose(x, AGE, 1, 3, 0, 2, 4, 1, 3, 0, 2, 4, 1, 3);
        x.mend(4, 3, 18);
        whose(x, AGE, 4, 1, 3, 0, 2, 4, 1);
        x.mend(1, 3, 1);
        whose(x, AGE, 4, 3, 0, 2, 1, 4, 3);
        whose(Due.alike(6, 5), AGE, 0, 1, 2, 3, 4, 0);
        DoorsForThree y = Due.alike(1, 0);
        Due.children(y, 17, 0, 18, 0);
        whose(y, AGE, 1);
        y.mend(0, 3, 18);
        whose(y, AGE, 0);
    }

    private static void thereAndBack() {
        t.says("BACKWARDS (2): by turns there and back (0, 1, 2, 2, 1, 0, 0 and so on).");
        whose(Due.alike(7, 3), BACKWARDS, 0, 1, 2, 2, 1, 0, 0);
        whose(Due.alike(12, 3), BACKWARDS, 0, 1, 2, 2, 1, 0, 0, 1, 2, 2, 1, 0);
        whose(Due.alike(12, 1), BACKWARDS, 0, 0, 0, 0, 0, 0, 0, 0, 0, 0, 0, 0);
        whose(Due.alike(12, 2), BACKWARDS, 0, 1, 1, 0, 0, 1, 1, 0, 0, 1, 1, 0);
        whose(Due.alike(12, 4), BACKWARDS, 0, 1, 2, 3, 3, 2, 1, 0, 0, 1, 2, 3);
        whose(Due.alike(12, 5), BACKWARDS, 0, 1, 2, 3, 4, 4, 3, 2, 1, 0, 0, 1);
    }

    private static void worthOfLikeOnes() {
        t.says("BY WORTH (3): DOORS by DAY, each to the child for which what it is WORTH to it, less all it has (WORTH to it) till then, "
                + "is greatest (of like ones the least).");
        whose(Due.alike(8, 3), WORTH, 0, 1, 2, 0, 1, 2, 0, 1);
        whose(Due.alike(12, 5), WORTH, 0, 1, 2, 3, 4, 0, 1, 2, 3, 4, 0, 1);
        DoorsForThree x = Due.alike(1, 3);
        Due.law(x, "w+5");
        whose(x, WORTH, 0);
        x.mend(2, 4, 7);
        whose(x, WORTH, 2);
        x.mend(1, 4, 7);
        whose(x, WORTH, 1);
        x.mend(0, 4, 7);
        whose(x, WORTH, 0);
    }

    private static void worthTillThen() {
        t.says("less all it has (WORTH to it) till then");
        DoorsForThree x = new DoorsForThree();
        Due.doors(x, 1, 0, 3, 2, 0, 2, 3, 0, 1, 4, 0, 9);
        Due.children(x, 9, 7, 9, 7);
        // 9 - 0; 6 - 9 and 6 - 0; 3 - 9 and 3 - 6; 27 - 9 and 27 - 9: like ones
        whose(x, WORTH, 0, 1, 1, 0);
        x.mend(0, 4, 0);
        // the first likes them: 13 - 0; 10 - 13 and 6 - 0; 7 - 13 and 3 - 6; 31 - 13 and 27 - 9: like ones
        whose(x, WORTH, 0, 1, 1, 0);
        x.mend(2, 2, 2);
        // 10 - 13 and 6 - 6; 31 - 13 and 27 - 12
        whose(x, WORTH, 0, 1, 1, 0);
        DoorsForThree y = Due.alike(4, 2);
        y.mend(0, 0, 4);
        Due.law(y, "d=4");
        // 1 - 0; then 0 - 1 and 0 - 0, again and again
        whose(y, WORTH, 0, 1, 1, 1);
    }

    private static void needOfLikeOnes() {
        t.says("BY NEED (4): DOORS by DAY, each to the child whose all till then is least (of like ones the least).");
        whose(Due.alike(8, 3), NEED, 0, 1, 2, 0, 1, 2, 0, 1);
        DoorsForThree x = new DoorsForThree();
        Due.doors(x, 1, 0, 3, 2, 0, 2, 3, 0, 1, 4, 0, 9, 5, 0, 1);
        Due.children(x, 9, 7, 9, 7);
        // 0 0; 9 0; 9 6; 9 9: like ones; 36 9
        whose(x, NEED, 0, 1, 1, 0, 1);
        Due.law(x, "s+(d=3)");
        // 0 0; 3 0; 3 2; 3 4
        whose(x, NEED, 0, 1, 1, 0, 1);
        Due.law(x, "0");
        whose(x, NEED, 0, 0, 0, 0, 0);
        DoorsForThree y = Due.alike(4, 2);
        Due.awayFrom(y, 0, 5, 24);
        whose(y, NEED, 0, 0, 0, 0);
    }

    private static void oneChildHasAll() {
        t.says("A GIVING: to each DOOR a child.");
        for (int rule = 0; rule < 5; rule++) {
            whose(Due.alike(12, 1), rule, 0, 0, 0, 0, 0, 0, 0, 0, 0, 0, 0, 0);
        }
    }

    private static void whoseNumbers() {
        t.says("Whose a DOOR is. BAD; NOT.");
        DoorsForThree x = Due.alike(12, 5);
        for (int rule = 0; rule < 5; rule++) {
            t.edge("the first, RULE " + rule, x.whose(100 * rule) >= 0);
            t.edge("the last, RULE " + rule, x.whose(100 * rule + 11) >= 0);
            t.edge("DOOR 12, RULE " + rule, x.whose(100 * rule + 12), -1);
            t.edge("DOOR 99, RULE " + rule, x.whose(100 * rule + 99), -1);
        }
        int[] beyond = {500, 511, 1000, -1, -11, -100, -101, MIN, MAX};
        for (int rd : beyond) {
            t.edge("whose(" + rd + ")", x.whose(rd), -1);
        }
        DoorsForThree y = Due.alike(1, 1);
        t.edge("the only DOOR", y.whose(400), 0);
        t.edge("behind it", y.whose(401), -1);
    }

    private static void whoseNobody() {
        t.says("whose a DOOR is (NOT: no CHILDREN)");
        DoorsForThree x = Due.alike(2, 0);
        for (int rule = 0; rule < 5; rule++) {
            t.edge("RULE " + rule, x.whose(100 * rule + 1), -2);
            t.edge("BAD ahead of NOT", x.whose(100 * rule + 2), -1);
        }
        t.edge("no RULE 5", x.whose(500), -1);
        x.child(9, 0);
        t.edge("one came", x.whose(1), 0);
        DoorsForThree y = new DoorsForThree();
        t.edge("neither DOORS nor CHILDREN", y.whose(0), -1);
    }

    private static void allNumbers() {
        t.says("What all of one are WORTH to it. BAD.");
        DoorsForThree x = Due.alike(12, 5);
        for (int rule = 0; rule < 5; rule++) {
            t.edge("the first, RULE " + rule, x.all(10 * rule), 9);
            t.edge("the last, RULE " + rule, x.all(10 * rule + 4), 6);
            t.edge("child 5, RULE " + rule, x.all(10 * rule + 5), -1);
            t.edge("child 9, RULE " + rule, x.all(10 * rule + 9), -1);
        }
        int[] beyond = {50, 54, 100, -1, -4, -10, MIN, MAX};
        for (int rc : beyond) {
            t.edge("all(" + rc + ")", x.all(rc), -1);
        }
        DoorsForThree y = Due.alike(3, 0);
        t.edge("nobody", y.all(0), -1);
        DoorsForThree z = Due.alike(0, 2);
        t.edge("no DOORS", z.all(41), 0);
        t.edge("fewer DOORS than CHILDREN", Due.alike(1, 2).all(1), 0);
        Due.doors(z, 1, 0, 9, 2, 0, 9, 3, 0, 9);
        Due.law(z, "9999");
        t.edge("99 and 99", z.all(0), 198);
    }

    private static void givingNumbers() {
        t.says("How unfair (what 0), together (1), ENVY (2). BAD.");
        DoorsForThree x = Due.alike(5, 2);
        for (int rule = 0; rule < 5; rule++) {
            t.edge("how unfair", x.giving(rule, 0), 3);
            t.edge("together", x.giving(rule, 1), 15);
            t.edge("who has less envies", x.giving(rule, 2), x.all(10 * rule) < x.all(10 * rule + 1) ? 1 : 2);
            int[] whats = {-1, 3, MIN, MAX};
            for (int what : whats) {
                t.edge("giving(" + rule + ", " + what + ")", x.giving(rule, what), -1);
            }
        }
        int[] rules = {-1, 5, MIN, MAX};
        for (int rule : rules) {
            t.edge("giving(" + rule + ", 0)", x.giving(rule, 0), -1);
        }
    }

    private static void givingNobody() {
        t.says("how unfair it is (the greatest of these less the least; no CHILDREN: 0)");
        for (int rule = 0; rule < 5; rule++) {
            for (int what = 0; what <= 2; what++) {
                t.edge("DOORS alone", Due.alike(4, 0).giving(rule, what), 0);
                t.edge("CHILDREN alone", Due.alike(0, 4).giving(rule, what), 0);
            }
            t.edge("one child: nothing between", Due.alike(4, 1).giving(rule, 0), 0);
            t.edge("one child: no ENVY", Due.alike(4, 1).giving(rule, 2), 0);
            t.edge("one child together", Due.alike(4, 1).giving(rule, 1), 12);
        }
        t.edge("one has nothing", Due.alike(1, 5).giving(TURNS, 0), 3);
    }

    private static void envyAbove() {
        t.says("ENVY: who (bits) would rather have all of another one's (WORTH to itself, above its own)");
        DoorsForThree x = Due.alike(2, 2);
        x.mend(1, 1, 0);
        Due.law(x, "5");
        t.edge("as much", x.giving(TURNS, 2), 0);
        Due.law(x, "5+w");
        // each likes the second's DOOR
        t.edge("one above", x.giving(TURNS, 2), 1);
        x.mend(0, 4, 3);
        t.edge("only to the one that has it", x.giving(TURNS, 2), 0);
        x.mend(1, 4, 7);
        t.edge("WORTH to itself: the second likes the first's", x.giving(TURNS, 2), 2);
        x.mend(0, 4, 0);
        t.edge("both", x.giving(TURNS, 2), 3);
        Due.awayFrom(x, 0, 5, 24);
        t.edge("who never eats envies nobody", x.giving(TURNS, 2), 2);
    }

    private static void envyBits() {
        t.says("ENVY: who (bits)");
        DoorsForThree x = Due.alike(5, 5);
        t.edge("alike", x.giving(TURNS, 2), 0);
        for (int door = 0; door < 5; door++) {
            x.mend(door, 2, 2);
            t.edge("all but " + door, x.giving(TURNS, 2), 31 - (1 << door));
            x.mend(door, 2, 1);
        }
        t.edge("five CHILDREN, one DOOR", Due.alike(1, 5).giving(TURNS, 2), 30);
        for (int door = 1; door < 5; door++) {
            x.mend(door, 2, 2);
        }
        t.edge("one who envies four", x.giving(TURNS, 2), 1);
        x.mend(0, 2, 9);
        x.mend(4, 2, 1);
        t.edge("one envies four, three envy one", x.giving(TURNS, 2), 2 + 4 + 8 + 16);
    }

    private static void bestRuleTies() {
        t.says("BEST RULE: the least unfair (of like ones the one with most together, then the least): it; how unfair.");
        t.edge("all alike", Due.alike(6, 3).bestRule(0), 0);
        t.edge("all alike, how unfair", Due.alike(5, 3).bestRule(1), 3);
        // BY AGE and BY WORTH bring both what they like: 14 together, the others 6
        DoorsForThree x = new DoorsForThree();
        Due.doors(x, 1, 1, 1, 2, 0, 1);
        Due.children(x, 5, 0, 9, 1);
        t.edge("most together, then the least", x.bestRule(0), AGE);
        x.mend(1, 3, 5);
        t.edge("BY WORTH alone", x.bestRule(0), WORTH);
        t.edge("as unfair as the others", x.bestRule(1), 0);
        // by turns 30 and 3; there and back 27 and 6; by worth, by need too
        DoorsForThree y = new DoorsForThree();
        Due.doors(y, 1, 7, 9, 2, 7, 1, 3, 7, 1);
        Due.children(y, 9, 0, 9, 0);
        t.edge("by turns", y.giving(TURNS, 0), 27);
        t.edge("the least of 2, 3, 4", y.bestRule(0), BACKWARDS);
        t.edge("27 less 6", y.bestRule(1), 21);
        // by turns 9 and 9; there and back 6 and 12; by worth, by need too
        DoorsForThree z = new DoorsForThree();
        Due.doors(z, 1, 7, 2, 2, 7, 3, 3, 7, 1);
        Due.children(z, 9, 0, 9, 0);
        t.edge("less unfair goes ahead", z.bestRule(0), TURNS);
        t.edge("not at all", z.bestRule(1), 0);
    }

    private static void bestRuleNumbers() {
        t.says("BEST RULE: it (what 0), how unfair (1). BAD.");
        DoorsForThree x = Due.alike(3, 2);
        int[] whats = {-1, 2, MIN, MAX};
        for (int what : whats) {
            t.edge("bestRule(" + what + ")", x.bestRule(what), -1);
        }
        t.edge("no CHILDREN", Due.alike(3, 0).bestRule(0), 0);
        t.edge("no CHILDREN, how unfair", Due.alike(3, 0).bestRule(1), 0);
        t.edge("no DOORS", Due.alike(0, 3).bestRule(0), 0);
    }

    private static void fairestBounds() {
        t.says("of all GIVINGS (at most 8 DOORS and 3 CHILDREN, else STATE)");
        for (int children = 1; children <= 3; children++) {
            t.edge("8 DOORS, " + children, Due.alike(8, children).fairest(-1), 8 % children == 0 ? 0 : 3);
            t.edge("9 DOORS, " + children, Due.alike(9, children).fairest(-1), -5);
            t.edge("12 DOORS, " + children, Due.alike(12, children).fairest(11), -5);
        }
        for (int doors = 0; doors <= 9; doors++) {
            t.edge(doors + " DOORS, 4", Due.alike(doors, 4).fairest(-1), -5);
            t.edge(doors + " DOORS, 5", Due.alike(doors, 5).fairest(-2), -5);
        }
        t.says("FAIREST: how unfair (door -1), together (-2), whose a DOOR is. BAD; STATE; NOT.");
        for (int doors = 0; doors <= 8; doors++) {
            t.edge(doors + " DOORS, no CHILDREN", Due.alike(doors, 0).fairest(-1), -2);
            t.edge(doors + " DOORS, no CHILDREN, together", Due.alike(doors, 0).fairest(-2), -2);
        }
        t.edge("whose, no CHILDREN", Due.alike(8, 0).fairest(7), -2);
        t.edge("STATE ahead of NOT", Due.alike(9, 0).fairest(-1), -5);
        t.edge("BAD ahead of STATE", Due.alike(9, 4).fairest(9), -1);
        t.edge("BAD ahead of STATE, below", Due.alike(9, 4).fairest(-3), -1);
        t.edge("BAD ahead of NOT", Due.alike(8, 0).fairest(8), -1);
        DoorsForThree x = Due.alike(8, 3);
        t.edge("8 and 3", x.fairest(-2), 24);
        x.door(1, 1);
        t.edge("one more DOOR", x.fairest(-2), -5);
        DoorsForThree y = Due.alike(8, 3);
        y.child(1, 1);
        t.edge("one more child", y.fairest(-2), -5);
    }

    private static void fairest(DoorsForThree x, int unfair, int together, int... due) {
        t.edge("how unfair", x.fairest(-1), unfair);
        t.edge("together", x.fairest(-2), together);
        for (int door = 0; door < due.length; door++) {
            t.edge("whose " + door + " is", x.fairest(door), due[door]);
        }
    }

    private static void fairestTies() {
        t.says("the least unfair (of like ones the one with most together, then the first DOOR by DOOR by numbers)");
        fairest(Due.alike(2, 2), 0, 6, 0, 1);
        fairest(Due.alike(4, 2), 0, 12, 0, 0, 1, 1);
        fairest(Due.alike(3, 2), 3, 9, 0, 0, 1);
        fairest(Due.alike(1, 3), 3, 3, 0);
        fairest(Due.alike(3, 3), 0, 9, 0, 1, 2);
        fairest(Due.alike(8, 1), 0, 24, 0, 0, 0, 0, 0, 0, 0, 0);
        DoorsForThree x = Due.alike(2, 2);
        x.mend(0, 1, 1);
        x.mend(0, 4, 7);
        x.mend(1, 4, 1);
        // the first likes the second, the second the first
        fairest(x, 0, 14, 1, 0);
        DoorsForThree y = new DoorsForThree();
        Due.doors(y, 9, 7, 1, 2, 7, 2, 3, 7, 3);
        Due.children(y, 9, 0, 9, 0);
        // 3 and 6 for the first, 9 for the second
        fairest(y, 0, 18, 0, 0, 1);
        y.mend(2, 2, 4);
        fairest(y, 3, 21, 0, 0, 1);
        y.mend(0, 2, 9);
        fairest(y, 9, 45, 0, 1, 1);
        DoorsForThree z = Due.alike(2, 2);
        Due.law(z, "0");
        fairest(z, 0, 0, 0, 0);
        // less unfair goes ahead of more together: both to the second, which alone eats
        DoorsForThree v = Due.alike(2, 2);
        Due.awayFrom(v, 0, 5, 24);
        fairest(v, 0, 0, 0, 0);
        fairest(Due.alike(0, 3), 0, 0);
    }

    private static void fairestNumbers() {
        t.says("FAIREST: how unfair (door -1), together (-2), whose a DOOR is. BAD; STATE; NOT.");
        DoorsForThree x = Due.alike(3, 2);
        int[] beyond = {-3, 3, 8, MIN, MAX};
        for (int door : beyond) {
            t.edge("fairest(" + door + ")", x.fairest(door), -1);
        }
        t.edge("no DOORS", Due.alike(0, 2).fairest(0), -1);
        t.edge("the first", x.fairest(0), 0);
        t.edge("the last", x.fairest(2), 1);
    }

    private static void envyFreeBounds() {
        t.says("FREE OF ENVY. STATE; NOT: no CHILDREN.");
        for (int doors = 0; doors <= 8; doors++) {
            t.edge(doors + " DOORS, no CHILDREN", Due.alike(doors, 0).envyFree(), -2);
            t.edge(doors + " DOORS, one child", Due.alike(doors, 1).envyFree(), 1);
            t.edge(doors + " DOORS, four", Due.alike(doors, 4).envyFree(), -5);
        }
        for (int children = 1; children <= 5; children++) {
            t.edge("9 DOORS, " + children, Due.alike(9, children).envyFree(), -5);
        }
        t.edge("8 DOORS, 5", Due.alike(8, 5).envyFree(), -5);
        t.edge("8 DOORS, 3", Due.alike(8, 3).envyFree(), 0);
        t.edge("STATE ahead of NOT", Due.alike(9, 0).envyFree(), -5);
    }

    private static void envyFreeCounts() {
        t.says("FREE OF ENVY: how many GIVINGS are without ENVY (as above, else STATE).");
        int[] two = {1, 0, 2, 0, 6, 0, 20, 0, 70};
        int[] three = {1, 0, 0, 6, 0, 0, 90, 0, 0};
        for (int doors = 0; doors <= 8; doors++) {
            t.edge(doors + " for two", Due.alike(doors, 2).envyFree(), two[doors]);
            t.edge(doors + " for three", Due.alike(doors, 3).envyFree(), three[doors]);
        }
        DoorsForThree x = Due.alike(8, 3);
        Due.law(x, "0");
        t.edge("all are like for nothing", x.envyFree(), 6561);
        DoorsForThree y = Due.alike(8, 2);
        Due.law(y, "0");
        t.edge("of two", y.envyFree(), 256);
        Due.law(y, "1");
        Due.awayFrom(y, 1, 5, 24);
        // the second is never envious; the first is not if it has four at least: 70 + 56 + 28 + 8 + 1
        t.edge("one that never eats", y.envyFree(), 163);
    }

    private static DoorsForThree liked(int... whats) {
        DoorsForThree x = new DoorsForThree();
        for (int i = 0; i < whats.length; i++) {
            x.door(1 + i, whats[i]);
        }
        // by turns: 0, 2 and so on are the first's, which likes 0; the others the second's, which likes 1
        Due.children(x, 9, 0, 9, 1);
        return x;
    }

    private static void swapFirst() {
        t.says("the first two DOORS (of unlike children) the exchange of which brings both children more: 20 times the lesser and the other; NOT.");
        t.edge("0 and 1", liked(1, 0, 1, 0).swap(TURNS), 1);
        t.edge("0 and 3", liked(1, 7, 1, 0).swap(TURNS), 3);
        t.edge("1 and 2", liked(7, 0, 1, 0).swap(TURNS), 22);
        t.edge("2 and 3", liked(7, 7, 1, 0).swap(TURNS), 43);
        t.edge("none", liked(7, 7, 7, 0).swap(TURNS), -2);
        t.edge("the last two", liked(7, 7, 7, 7, 7, 7, 7, 7, 7, 7, 1, 0).swap(TURNS), 211);
        t.edge("the first and the last", liked(1, 7, 7, 7, 7, 7, 7, 7, 7, 7, 7, 0).swap(TURNS), 11);
        t.edge("the lesser first, by numbers, not by DAY", later(liked(1, 0)).swap(TURNS), -2);
        t.edge("the only DOOR", liked(1).swap(TURNS), -2);
        t.edge("no DOORS", liked().swap(TURNS), -2);
    }

    /** The first DOOR becomes the last by DAY. */
    private static DoorsForThree later(DoorsForThree x) {
        x.mend(0, 0, 24);
        return x;
    }

    private static void swapMore() {
        t.says("brings both children more");
        DoorsForThree x = liked(1, 0);
        t.edge("4 more for both", x.swap(TURNS), 1);
        Due.law(x, "w+5");
        t.edge("1 more for both", x.swap(TURNS), 1);
        Due.law(x, "w*0+5");
        t.edge("as much for both", x.swap(TURNS), -2);
        Due.law(x, "(a=9)*w+5");
        x.mend(1, 3, 8);
        t.edge("1 more for the first, as much for the other", x.swap(TURNS), -2);
        Due.law(x, "(a=8)*w+5");
        t.edge("as much for the first, 1 more for the other", x.swap(TURNS), -2);
        Due.law(x, "9-w");
        t.edge("less for both", x.swap(TURNS), -2);
        Due.law(x, "w+5");
        Due.awayFrom(x, 0, 2, 24);
        t.edge("the first would never eat the other", x.swap(TURNS), -2);
    }

    private static void swapUnlike() {
        t.says("the first two DOORS (of unlike children)");
        DoorsForThree x = liked(1, 7, 0);
        // 0 and 2 are both the first's
        t.edge("of one child", x.swap(TURNS), -2);
        t.edge("one child alone", Due.alike(5, 1).swap(NEED), -2);
        for (int rule = 0; rule < 5; rule++) {
            t.edge("no CHILDREN, RULE " + rule, Due.alike(5, 0).swap(rule), -2);
        }
        t.says("`int swap(int rule)`: SWAP. BAD; NOT.");
        int[] rules = {-1, 5, MIN, MAX};
        for (int rule : rules) {
            t.edge("swap(" + rule + ")", x.swap(rule), -1);
        }
    }

    private static void swapsTillNone() {
        t.says("SWAPS: such first ones, one after the other, till there is none (at most 50): how many; how unfair it is then.");
        DoorsForThree x = liked(1, 0, 1, 0);
        t.edge("two", x.swaps(TURNS, 0), 2);
        t.edge("14 and 14", x.swaps(TURNS, 1), 0);
        x.mend(3, 2, 2);
        t.edge("6 for 7 is more", x.swaps(TURNS, 0), 2);
        x.mend(3, 2, 3);
        t.edge("9 for 7 is not", x.swaps(TURNS, 0), 1);
        t.edge("7 and 3, and 7 and 9", x.swaps(TURNS, 1), 6);
        t.edge("one", liked(1, 0, 7).swaps(TURNS, 0), 1);
        t.edge("7 and 3, and 7", liked(1, 0, 7).swaps(TURNS, 1), 3);
        t.edge("none", liked(0, 1).swaps(TURNS, 0), 0);
        t.edge("none, 7 and 7", liked(0, 1).swaps(TURNS, 1), 0);
        t.edge("no CHILDREN", Due.alike(3, 0).swaps(TURNS, 0), 0);
        t.edge("no CHILDREN, how unfair", Due.alike(3, 0).swaps(TURNS, 1), 0);
        DoorsForThree y = liked(1, 0, 1, 0);
        y.swaps(TURNS, 0);
        t.edge("nothing has changed", y.swap(TURNS), 1);
        t.edge("the giving neither", y.all(0), 6);
    }

    private static void swapsMany() {
        t.says("one after the other, till there is none (at most 50)");
        DoorsForThree x = new DoorsForThree();
        Due.doors(x, 19, 4, 4, 6, 4, 1, 7, 3, 1, 3, 6, 3, 8, 1, 8, 24, 1, 7, 16, 5, 5, 21, 4, 9, 6, 3, 9, 6, 2, 6, 4, 7, 5, 14, 4, 9);
        Due.children(x, 11, 5, 13, 7, 18, 0, 10, 4, 12, 5);
        Due.law(x, "(d*a+s*s*a)%31");
        t.edge("a long row of them", x.swaps(BACKWARDS, 0), 21);
        t.edge("how unfair then", x.swaps(BACKWARDS, 1), 37);
    }

    private static void swapsNumbers() {
        t.says("SWAPS: how many (what 0), how unfair then (1). BAD.");
        DoorsForThree x = liked(1, 0);
        int[] whats = {-1, 2, MIN, MAX};
        for (int what : whats) {
            t.edge("swaps(0, " + what + ")", x.swaps(0, what), -1);
        }
        int[] rules = {-1, 5, MIN, MAX};
        for (int rule : rules) {
            t.edge("swaps(" + rule + ", 0)", x.swaps(rule, 0), -1);
        }
        t.edge("RULE 4", x.swaps(4, 0), 1);
    }

    private static void bigOfLikeOnes() {
        t.says("BIG: if the greatest DOOR by SIZE (of like ones the least) were nobody's");
        DoorsForThree x = Due.alike(3, 2);
        x.mend(1, 2, 4);
        x.mend(2, 2, 4);
        // by turns 3 and 12 for the first: the second's 12 goes; each has a part of 2
        t.edge("the lesser of like ones goes: the first", x.big(TURNS, 0), 15 + 6);
        t.edge("the second has its part alone", x.big(TURNS, 1), 6);
        t.edge("how unfair", x.big(TURNS, -1), 15);
        x.mend(2, 2, 5);
        t.edge("a greater one goes: the first", x.big(TURNS, 0), 3 + 6);
        t.edge("the second keeps its own", x.big(TURNS, 1), 12 + 6);
        x.mend(0, 2, 5);
        t.edge("the least of like ones goes", x.big(TURNS, 0), 15 + 6);
        DoorsForThree y = Due.alike(12, 1);
        y.mend(11, 2, 2);
        t.edge("the last is the greatest, for one alone", y.big(TURNS, 0), 11 * 3 + 6);
    }

    private static void bigCut() {
        t.says("one more, like it, of SIZE by how many CHILDREN (cut; 0: WORTH 0)");
        int[][] due = {{3, 0, 0, 0, 0}, {6, 3, 0, 0, 0}, {9, 3, 3, 0, 0}, {12, 6, 3, 3, 0}, {15, 6, 3, 3, 3}, {18, 9, 6, 3, 3},
            {21, 9, 6, 3, 3}, {24, 12, 6, 6, 3}, {27, 12, 9, 6, 3}};
        for (int size = 1; size <= 9; size++) {
            for (int many = 1; many <= 5; many++) {
                DoorsForThree x = Due.alike(1, many);
                x.mend(0, 2, size);
                t.edge("SIZE " + size + " by " + many, x.big(TURNS, many - 1), due[size - 1][many - 1]);
            }
        }
        DoorsForThree y = Due.alike(1, 2);
        y.mend(0, 4, 7);
        t.edge("SIZE 0 is WORTH 0, liked too", y.big(TURNS, 0), 0);
        Due.law(y, "50");
        t.edge("by a law too", y.big(TURNS, 1), 0);
        y.mend(0, 2, 2);
        t.edge("SIZE 1 by the law", y.big(TURNS, 1), 50);
    }

    private static void bigEaten() {
        t.says("EATEN as its own: how unfair it is then; what one's all are WORTH then");
        DoorsForThree x = Due.alike(1, 2);
        x.mend(0, 2, 8);
        Due.awayFrom(x, 1, 5, 6);
        t.edge("at home", x.big(TURNS, 0), 12);
        t.edge("two days late", x.big(TURNS, 1), 10);
        t.edge("how unfair", x.big(TURNS, -1), 2);
        x.mend(1, 7, 24);
        t.edge("never", x.big(TURNS, 1), 0);
        x.mend(1, 6, 6);
        t.edge("not away on its DAY", x.big(TURNS, 1), 12);
    }

    private static void bigNumbers() {
        t.says("BIG: how unfair then (child -1), one's all. BAD; NOT: no DOORS, no CHILDREN.");
        DoorsForThree x = Due.alike(2, 3);
        int[] children = {-2, 3, MIN, MAX};
        for (int child : children) {
            t.edge("big(0, " + child + ")", x.big(0, child), -1);
        }
        int[] rules = {-1, 5, MIN, MAX};
        for (int rule : rules) {
            t.edge("big(" + rule + ", 0)", x.big(rule, 0), -1);
            t.edge("BAD ahead of NOT", Due.alike(0, 0).big(rule, -1), -1);
        }
        for (int rule = 0; rule < 5; rule++) {
            t.edge("no DOORS", Due.alike(0, 2).big(rule, -1), -2);
            t.edge("no DOORS, one's", Due.alike(0, 2).big(rule, 1), -2);
            t.edge("no DOORS, child 2: BAD ahead of NOT", Due.alike(0, 2).big(rule, 2), -1);
            t.edge("no CHILDREN", Due.alike(2, 0).big(rule, -1), -2);
            t.edge("no CHILDREN, child 0: BAD ahead of NOT", Due.alike(2, 0).big(rule, 0), -1);
            t.edge("neither", Due.alike(0, 0).big(rule, -1), -2);
        }
    }

    private static void awayDoors() {
        t.says("AWAY: how many DOORS a child is away for");
        DoorsForThree x = new DoorsForThree();
        for (int day = 2; day <= 24; day += 2) {
            x.door(day, 7);
        }
        Due.children(x, 9, 0, 9, 0);
        t.edge("never away", x.away(1, 0), 0);
        Due.awayFrom(x, 1, 4, 6);
        t.edge("both ends", x.away(1, 0), 2);
        Due.awayFrom(x, 1, 5, 5);
        t.edge("between two", x.away(1, 0), 0);
        Due.awayFrom(x, 1, 5, 6);
        t.edge("the end", x.away(1, 0), 1);
        Due.awayFrom(x, 1, 4, 5);
        t.edge("the beginning", x.away(1, 0), 1);
        Due.awayFrom(x, 1, 1, 24);
        t.edge("all", x.away(1, 0), 12);
        Due.awayFrom(x, 1, 3, 24);
        t.edge("all but the first", x.away(1, 0), 11);
        t.says("AWAY: DOORS (what 0; the RULE does not matter)");
        for (int rule = 0; rule < 5; rule++) {
            t.edge("RULE " + rule, x.away(10 * rule + 1, 0), 11);
        }
    }

    private static void awayNever() {
        t.says("how many are never EATEN by a RULE");
        DoorsForThree x = new DoorsForThree();
        Due.doors(x, 22, 7, 1, 23, 7, 1, 24, 7, 1, 24, 7, 1);
        Due.children(x, 9, 0, 9, 0);
        Due.awayFrom(x, 1, 23, 24);
        t.edge("its own of the 23rd and the 24th", x.away(1, 1), 2);
        t.edge("there and back: 23rd, 24th", x.away(21, 1), 2);
        t.edge("the other's", x.away(0, 1), 0);
        Due.awayFrom(x, 1, 23, 23);
        t.edge("till the 23rd: on the 24th", x.away(1, 1), 0);
        Due.awayFrom(x, 1, 24, 24);
        t.edge("the 24th alone", x.away(1, 1), 1);
        Due.awayFrom(x, 1, 24, 23);
        t.edge("no day at all", x.away(1, 1), 0);
    }

    private static void awayDays() {
        t.says("the days that all its DOORS are late together");
        DoorsForThree x = new DoorsForThree();
        Due.doors(x, 1, 7, 1, 10, 7, 1, 23, 7, 1, 24, 7, 1);
        x.child(9, 0);
        Due.awayFrom(x, 0, 1, 23);
        t.edge("23 and 14 and 1", x.away(0, 2), 38);
        Due.awayFrom(x, 0, 1, 1);
        t.edge("1", x.away(0, 2), 1);
        Due.awayFrom(x, 0, 2, 9);
        t.edge("none", x.away(0, 2), 0);
        Due.awayFrom(x, 0, 2, 10);
        t.edge("1 of the second", x.away(0, 2), 1);
        Due.awayFrom(x, 0, 1, 24);
        t.edge("never EATEN is not late", x.away(0, 2), 0);
        x.child(9, 0);
        Due.awayFrom(x, 1, 1, 23);
        // BY NEED all are the first's, as it never eats any
        t.edge("none of its own", x.away(41, 2), 0);
        t.edge("its own by turns", x.away(1, 2), 14);
    }

    private static void awayNumbers() {
        t.says("AWAY: DOORS (what 0; the RULE does not matter), never EATEN ones (1), days (2). BAD.");
        DoorsForThree x = Due.alike(3, 2);
        int[] beyond = {2, 9, 42, 50, -1, -10, MIN, MAX};
        for (int rc : beyond) {
            for (int what = 0; what <= 2; what++) {
                t.edge("away(" + rc + ", " + what + ")", x.away(rc, what), -1);
            }
        }
        int[] whats = {-1, 3, MIN, MAX};
        for (int what : whats) {
            t.edge("away(0, " + what + ")", x.away(0, what), -1);
        }
        t.edge("no CHILDREN", Due.alike(3, 0).away(0, 0), -1);
        t.edge("no DOORS", Due.alike(0, 1).away(0, 0), 0);
        t.edge("no DOORS, never", Due.alike(0, 1).away(0, 1), 0);
        t.edge("no DOORS, days", Due.alike(0, 1).away(0, 2), 0);
    }

    private static DoorsForThree onDays(String law, int... days) {
        DoorsForThree x = new DoorsForThree();
        for (int day : days) {
            x.door(day, 7);
        }
        x.child(9, 0);
        Due.law(x, law);
        return x;
    }

    private static void gatherAtOnce() {
        t.says("only when it has gathered g (1 .. 9), all at once on the DAY of the latest of them");
        DoorsForThree x = onDays("n+1", 3, 5, 24);
        t.edge("one by one", x.gather(0, 1), 3);
        t.edge("two: 2 days, and the last on its DAY 24", x.gather(0, 2), 3 + 1 + 1);
        t.edge("three: on DAY 24", x.gather(0, 3), 22 + 20 + 1);
        DoorsForThree y = onDays("n", 1, 2, 4, 7, 11, 16);
        t.edge("one by one", y.gather(0, 1), 0);
        t.edge("by twos", y.gather(0, 2), 1 + 3 + 5);
        t.edge("by threes", y.gather(0, 3), 3 + 2 + 9 + 5);
        t.edge("all six, none left", y.gather(0, 6), 15 + 14 + 12 + 9 + 5);
        t.edge("later told ones come by DAY", onDays("n", 9, 1, 5).gather(0, 2), 4 + 15);
    }

    private static void gatherLeft() {
        t.says("(those left at the end on DAY 24)");
        DoorsForThree y = onDays("n", 1, 2, 4, 7, 11, 16);
        t.edge("by fours, two left", y.gather(0, 4), 6 + 5 + 3 + 13 + 8);
        t.edge("by fives, one left", y.gather(0, 5), 10 + 9 + 7 + 4 + 8);
        t.edge("by sevens, all left", y.gather(0, 7), 23 + 22 + 20 + 17 + 13 + 8);
        t.edge("by nines, all left", y.gather(0, 9), 103 + 0);
        t.edge("on DAY 24 itself", onDays("n+1", 24).gather(0, 9), 1);
        DoorsForThree x = onDays("n", 1, 2, 3, 4, 5, 6, 7, 8, 9, 10, 11, 12);
        t.edge("nine of twelve, three left", x.gather(0, 9), 36 + 14 + 13 + 12);
        t.edge("by sixes, none left", x.gather(0, 6), 15 + 15);
        t.edge("no DOORS", onDays("n+1").gather(0, 3), 0);
    }

    private static void gatherLikeDays() {
        t.says("one eats its DOORS of a RULE (by DAY)");
        DoorsForThree x = onDays("s*n", 5, 5, 5);
        x.mend(1, 2, 2);
        x.mend(2, 2, 4);
        t.edge("of like DAYS by numbers: the last is left", x.gather(0, 2), 4 * 19);
        t.edge("none left", x.gather(0, 3), 0);
        t.says("(being away does not matter)");
        Due.awayFrom(x, 0, 1, 24);
        t.edge("away", x.gather(0, 2), 4 * 19);
    }

    private static void gatherBest() {
        t.says("the best g (of like ones the least)");
        t.edge("all alike", onDays("5", 3, 5, 9).gather(0, 0), 1);
        t.edge("no DOORS", onDays("5").gather(0, 0), 1);
        t.edge("the later the better, 3 as good as more", onDays("n+1", 3, 5, 24).gather(0, 0), 3);
        t.edge("the later the worse", onDays("24-n", 3, 5, 24).gather(0, 0), 1);
        t.edge("4, for all are left then", onDays("n", 3, 5, 9).gather(0, 0), 4);
        t.edge("nine", onDays("(n=8)*9", 1, 2, 3, 4, 5, 6, 7, 8, 9).gather(0, 0), 9);
        t.edge("better by 1", onDays("(n=2)+1", 3, 5, 9).gather(0, 0), 2);
    }

    private static void gatherNumbers() {
        t.says("GATHER by g; the best g (g 0). BAD.");
        DoorsForThree x = Due.alike(12, 2);
        int[] gs = {-1, 10, MIN, MAX};
        for (int g : gs) {
            t.edge("gather(0, " + g + ")", x.gather(0, g), -1);
        }
        int[] beyond = {2, 9, 42, 50, -1, MIN, MAX};
        for (int rc : beyond) {
            t.edge("gather(" + rc + ", 1)", x.gather(rc, 1), -1);
            t.edge("gather(" + rc + ", 0)", x.gather(rc, 0), -1);
        }
        for (int rule = 0; rule < 5; rule++) {
            t.edge("the last child, RULE " + rule, x.gather(10 * rule + 1, 1), 18);
            t.edge("the last child, the best, RULE " + rule, x.gather(10 * rule + 1, 0), 1);
        }
        t.edge("no CHILDREN", Due.alike(12, 0).gather(0, 1), -1);
        Due.law(x, "w*n");
        x.mend(1, 4, 7);
        // the second child alone likes them: its six are best left till DAY 24
        t.edge("by its own worth: the second", x.gather(1, 0), 7);
        t.edge("by its own worth: the first", x.gather(0, 0), 1);
        t.edge("the second by another RULE", x.gather(21, 0), 7);
        t.edge("the second by another RULE, seven", x.gather(21, 7), 6 * 19);
    }

    private static void waitsTill() {
        t.says("the last DAY on which a child holds out: WAITS times 3, and 2 more if SEEN is 0, 24 at most");
        int[] unseen = {2, 5, 8, 11, 14, 17, 20, 23, 24, 24};
        int[] seen = {0, 3, 6, 9, 12, 15, 18, 21, 24, 24};
        DoorsForThree x = Due.alike(0, 2);
        for (int waits = 0; waits <= 9; waits++) {
            x.mend(1, 5, waits);
            x.mend(0, 8, 0);
            t.edge("WAITS " + waits + ", not SEEN", x.waits(1, 0), unseen[waits]);
            x.mend(0, 8, 1);
            t.edge("WAITS " + waits + ", SEEN", x.waits(1, 0), seen[waits]);
        }
        x.mend(0, 8, 0);
        t.edge("the other at first", x.waits(0, 0), 17);
    }

    private static void waitsEarly() {
        t.says("which of its DOORS (bits) by a RULE it opens early (those of a later DAY)");
        DoorsForThree x = new DoorsForThree();
        Due.doors(x, 16, 7, 1, 17, 7, 1, 18, 7, 1, 24, 7, 1, 1, 7, 1);
        x.child(9, 0);
        t.edge("the 18th and the 24th", x.waits(0, 1), 4 + 8);
        x.mend(0, 5, 0);
        x.mend(0, 8, 1);
        t.edge("DAY 0: all", x.waits(0, 1), 31);
        x.mend(0, 5, 8);
        t.edge("DAY 24: none", x.waits(0, 1), 0);
        DoorsForThree y = new DoorsForThree();
        for (int i = 0; i < 12; i++) {
            y.door(13 + i, 7);
        }
        Due.children(y, 9, 0, 9, 0);
        y.mend(0, 5, 0);
        y.mend(1, 5, 0);
        t.edge("every second", y.waits(0, 1), 0b010101010101);
        t.edge("the other ones", y.waits(1, 1), 0b101010101010);
        t.edge("there and back", y.waits(20, 1), 0b100110011001);
    }

    private static void waitsNumbers() {
        t.says("WAIT: the last DAY (what 0), which early (1: bits). BAD.");
        DoorsForThree x = Due.alike(3, 2);
        int[] beyond = {2, 9, 42, 50, -1, MIN, MAX};
        for (int rc : beyond) {
            t.edge("waits(" + rc + ", 0)", x.waits(rc, 0), -1);
            t.edge("waits(" + rc + ", 1)", x.waits(rc, 1), -1);
        }
        int[] whats = {-1, 2, MIN, MAX};
        for (int what : whats) {
            t.edge("waits(0, " + what + ")", x.waits(0, what), -1);
        }
        t.edge("no CHILDREN", Due.alike(3, 0).waits(0, 0), -1);
    }
}
