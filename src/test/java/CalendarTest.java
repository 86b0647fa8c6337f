/** Promises 1 to 9: doors, children, their numbers, the law, what a door is worth. */
public final class CalendarTest {
    private static final Due t = new Due();

    public static void main(String[] args) {
        promise1();
        promise2();
        promise3();
        promise4();
        promise5();
        promise6();
        promise7();
        promise8();
        promise8Faults();
        promise8Values();
        promise9();
        t.end();
    }

    private static void promise1() {
        DoorsForThree x = new DoorsForThree();
        for (int what = 0; what <= 5; what++) {
            t.due("1: count(" + what + ") at first", x.count(what), 0);
        }
        for (int what = 0; what <= 3; what++) {
            t.due("1: led(" + what + ") at first", x.led(what), 0);
        }
        for (int shelf = 0; shelf < 6; shelf++) {
            t.due("1: put on an empty shelf", x.put(shelf, 0, 1), -11);
        }
        t.due("1: SEEN at first", x.of(0, 8), 0);
        t.due("1: SPOILS at first", x.of(0, 9), 1);
        t.due("1: nothing to undo", x.undo(), -5);
        t.due("1: nothing to redo", x.redo(), -5);
        t.due("1: no image", x.back(), -5);
        t.due("1: no trace", x.trace(0), -1);
        t.due("1: an object of its own", new DoorsForThree().door(1, 1), 0);
    }

    private static void promise2() {
        DoorsForThree x = new DoorsForThree();
        t.due("2: DAY 0", x.door(0, 0), -1);
        t.due("2: DAY 25", x.door(25, 0), -1);
        t.due("2: WHAT -1", x.door(1, -1), -1);
        t.due("2: WHAT 8", x.door(1, 8), -1);
        t.due("2: the least", x.door(1, 0), 0);
        t.due("2: the most", x.door(24, 7), 1);
        t.due("2: the same DAY again", x.door(24, 3), 2);
        t.due("2: its DAY", x.of(1, 0), 24);
        t.due("2: its WHAT", x.of(1, 1), 7);
        t.due("2: its SIZE at first", x.of(1, 2), 1);
        for (int door = 3; door < 12; door++) {
            t.due("2: the next", x.door(door, 0), door);
        }
        t.due("2: FULL", x.door(1, 1), -3);
        t.due("2: BAD ahead of FULL", x.door(0, 1), -1);
        t.due("2: twelve", x.count(0), 12);
    }

    private static void promise3() {
        DoorsForThree x = new DoorsForThree();
        t.due("3: missing", x.doors(0, 0, 1), 0);
        t.due("3: shelf 6", x.doors(6, 0, 1), -1);
        t.due("3: shelf -1", x.doors(-1, 0, 1), -1);
        t.due("3: n 0", x.doors(0, 0, 0), -1);
        t.due("3: n 13", x.doors(0, 0, 13), -1);
        t.due("3: missing, from below", x.doors(0, -1, 1), 0);
        t.due("3: missing, from far below", x.doors(0, Integer.MIN_VALUE, 12), 0);
        t.due("3: shelf 6, from below", x.doors(6, -1, 1), -1);
        t.due("3: n 0, from below", x.doors(0, -1, 0), -1);
        x.row(1, 1, 6);
        t.due("3: shorts", x.doors(1, 0, 1), -12);
        t.due("3: shorts, from below", x.doors(1, -1, 1), -12);
        x.body(0);
        x.keep(2, 0);
        t.due("3: a BODY", x.doors(2, 0, 1), -12);
        Due.bytes(x, 0, 9, 9, 4, 7, 2, 24, 0, 1, 3, 3);
        t.due("3: from below nothing stands there", x.doors(0, -1, 1), 0);
        t.due("3: from a three below", x.doors(0, -3, 12), 0);
        t.due("3: from far below", x.doors(0, Integer.MIN_VALUE, 12), 0);
        t.due("3: none came", x.count(0), 0);
        t.due("3: two of three, the row ends within the third", x.doors(0, 2, 3), 2);
        t.due("3: DAY", x.of(0, 0), 4);
        t.due("3: they came", x.count(0), 2);
        DoorsForThree y = new DoorsForThree();
        Due.bytes(y, 0, 4, 0, 9, 24, 7, 1, 5, 5, 0, 6, 6, 6);
        t.due("3: SIZE 0 is not so", y.doors(0, 0, 4), 2);
        t.due("3: SIZE", y.of(0, 2), 9);
        t.due("3: WHAT", y.of(1, 1), 7);
        t.due("3: behind it", y.doors(0, 9, 4), 1);
        t.due("3: WHAT 24 is not so", y.doors(0, 2, 1), 0);
        t.due("3: at the end", y.doors(0, 12, 1), 0);
        t.due("3: far behind it", y.doors(0, Integer.MAX_VALUE, 12), 0);
        t.due("3: no CHANGES came", y.count(3), 0);
        int[] many = new int[45];
        for (int i = 0; i < 45; i += 3) {
            many[i] = 1 + i;
            many[i + 1] = 2;
            many[i + 2] = 3;
        }
        Due.bytes(y, 1, many);
        t.due("3: DAY 25 is not so", y.doors(1, 0, 12), 8);
        t.due("3: till FULL", y.doors(1, 0, 5), 1);
        t.due("3: FULL", y.doors(1, 0, 5), 0);
        DoorsForThree z = new DoorsForThree();
        Due.bytes(z, 5, 1, 1, 1, -1, 0, 1, 2, 2, 2);
        t.due("3: DAY -1 is not so", z.doors(5, 0, 12), 1);
        t.due("3: n of them, no more", z.doors(5, 6, 1), 1);
        Due.bytes(z, 5, 1, 1, 1, 2, 2, 2, 3, 3, 3);
        t.due("3: two of three", z.doors(5, 0, 2), 2);
    }

    private static void promise4() {
        DoorsForThree x = new DoorsForThree();
        t.due("4: AGE 0", x.child(0, 0), -1);
        t.due("4: AGE 19", x.child(19, 0), -1);
        t.due("4: LIKES -1", x.child(1, -1), -1);
        t.due("4: LIKES 8", x.child(1, 8), -1);
        t.due("4: the least", x.child(1, 0), 0);
        t.due("4: the most", x.child(18, 7), 1);
        t.due("4: AGE", x.of(1, 3), 18);
        t.due("4: LIKES", x.of(1, 4), 7);
        t.due("4: WAITS at first", x.of(1, 5), 5);
        t.due("4: FROM at first", x.of(1, 6), 0);
        t.due("4: TILL at first", x.of(1, 7), 0);
        for (int child = 2; child < 5; child++) {
            t.due("4: the next", x.child(9, 1), child);
        }
        t.due("4: FULL", x.child(9, 1), -3);
        t.due("4: BAD ahead of FULL", x.child(0, 1), -1);
        t.due("4: five", x.count(1), 5);
    }

    private static void promise5() {
        DoorsForThree x = new DoorsForThree();
        x.door(3, 4);
        x.child(8, 2);
        int[] least = {1, 0, 1, 1, 0, 0, 0, 0, 0, 0};
        int[] most = {24, 7, 9, 18, 7, 9, 24, 24, 1, 9};
        int[] was = {3, 4, 1, 8, 2, 5, 0, 0, 0, 1};
        for (int what = 0; what <= 9; what++) {
            t.due("5: below, what " + what, x.mend(0, what, least[what] - 1), -1);
            t.due("5: above, what " + what, x.mend(0, what, most[what] + 1), -1);
            t.due("5: number 1, what " + what, x.mend(1, what, most[what]), -1);
            t.due("5: number -1, what " + what, x.mend(-1, what, most[what]), -1);
            t.due("5: nothing changed, what " + what, x.of(0, what), was[what]);
            t.due("5: to the most, what " + what, x.mend(0, what, most[what]), was[what]);
            t.due("5: to the least, what " + what, x.mend(0, what, least[what]), most[what]);
            t.due("5: it is so, what " + what, x.of(0, what), least[what]);
        }
        t.due("5: what 10", x.mend(0, 10, 0), -1);
        t.due("5: what -1", x.mend(0, -1, 0), -1);
        t.due("5: what far off", x.mend(0, Integer.MIN_VALUE, 0), -1);
    }

    private static void promise6() {
        DoorsForThree x = new DoorsForThree();
        t.due("6: no DOOR", x.of(0, 0), -1);
        t.due("6: no child", x.of(0, 3), -1);
        t.due("6: no DOOR to be opened", x.of(0, 10), -1);
        x.door(3, 4);
        x.child(8, 2);
        x.child(7, 1);
        t.due("6: DAY", x.of(0, 0), 3);
        t.due("6: AGE", x.of(1, 3), 7);
        t.due("6: SEEN of 1", x.of(1, 8), -1);
        t.due("6: SPOILS", x.of(0, 9), 1);
        t.due("6: closed", x.of(0, 10), -2);
        x.open(1, 0);
        t.due("6: opened", x.of(0, 10), 1);
        t.due("6: what 11", x.of(0, 11), -1);
        t.due("6: what -1", x.of(0, -1), -1);
    }

    private static void promise7() {
        DoorsForThree x = new DoorsForThree();
        t.due("7: below", x.feed(-1), -1);
        t.due("7: above", x.feed(256), -1);
        t.due("7: 0", x.feed(0), 1);
        t.due("7: 255", x.feed(255), 2);
        for (int i = 3; i <= 120; i++) {
            t.due("7: the next", x.feed('s'), i);
        }
        t.due("7: FULL", x.feed('s'), -3);
        t.due("7: BAD ahead of FULL", x.feed(256), -1);
        t.due("7: count", x.count(2), 120);
    }

    private static void promise8() {
        DoorsForThree x = new DoorsForThree();
        x.door(5, 1);
        x.child(7, 1);
        t.due("8: nothing on the tape", x.law(), -100);
        t.due("8: so the way without a text stays", x.worth(0, 0), 7);
        t.due("8: a text", Due.law(x, "s+10"), 1);
        t.due("8: the tape is empty then", x.count(2), 0);
        t.due("8: it counts", x.worth(0, 0), 11);
        t.due("8: a fault", Due.law(x, "s+"), -102);
        t.due("8: the tape is empty then too", x.count(2), 0);
        t.due("8: the law stays", x.worth(0, 0), 11);
        t.due("8: another", Due.law(x, "a"), 1);
        t.due("8: which counts", x.worth(0, 0), 7);
        StringBuilder longest = new StringBuilder("s");
        for (int i = 0; i < 59; i++) {
            longest.append("+1");
        }
        t.due("8: 119 bytes", Due.law(x, longest.toString()), 1);
        t.due("8: all of them count", x.worth(0, 0), 60);
        t.due("8: 120 bytes that end too early", Due.law(x, longest + "+"), -220);
        promise8Longest();
    }

    private static void promise8Longest() {
        DoorsForThree x = new DoorsForThree();
        x.door(5, 1);
        x.child(7, 1);
        StringBuilder lines = new StringBuilder("1");
        for (int i = 0; i < 59; i++) {
            lines.insert(0, i % 2 == 0 ? "1;" : "0?");
        }
        t.due("8: many LINES", Due.law(x, lines.toString()), 1);
        // 121 steps: the end of the last LINE is one more than there are bytes
        t.due("8: 120 bytes, the last LINE counts", Due.law(x, "0?1;".repeat(29) + "--!0"), 1);
        t.due("8: as the last LINE says", x.worth(0, 0), 1);
        StringBuilder deep = new StringBuilder("((((((");
        for (int i = 0; i < 107; i++) {
            deep.append(i % 2 == 0 ? '7' : '%');
        }
        t.due("8: 119 bytes with six open", Due.law(x, deep + "))))))"), 1);
        t.due("8: as it is", x.worth(0, 0), 0);
    }

    private static void promise8Faults() {
        String[] texts = {"", "x", "s", "12345", "1234", "0000", "s s", "s;", ";", "s?", "?s", "s?s?s", "s?s;s?s", "(s?s)", "(s;s)",
            "s)", "()", "(s", "(s))", "s<s", "s<s<s", "s<s=s", "(s<s)<s", "s<(s<s)", "s|s<s&s>s", "s&s<s|", "!s", "!!s", "s!", "s--s",
            "s+-s", "s-+s", "+s", "((((((s))))))", "(((((((s", "!!!!!!s", "!!!!!!!s", "-!(-!(s", "-!(-!(-s", "-!(-!(s))+-!-!-!s", "-s-s-s-s-s-s-s-s",
            "s?((((((s))))))", "s?(((((((s", "((((((s))))))?(((((((s", "s;((((((s))))));(((((((s", "(-s)+(-s)*(-s)", "((((((s+-s", "((((((s))))))+((((((s))))))", "sw", "1s", "s1", "(1)1", "s*/s", "s%s/s*s", "S", "s\u0000", "s\u00ff", "s|",
            "s||s", "s&&s", "d=24", "d==24", "s<=s", "(((((-s))))", "(((((-(s"};
        int[] faults = {0, 0, -1, 4, -1, -1, 1, 2, 0, 2, 0, 3, -1, 2, 2,
            1, 1, 2, 3, -1, 3, 3, -1, -1, -1, 6, -1, -1, 1, -1,
            -1, 2, 0, -1, 6, -1, 6, 7, 6, -1, -1,
            -1, 8, 20, 22, -1, 8, -1, 1, 1, 1, 3, 2, -1, 0, 1, 1, 2,
            2, 2, -1, 2, 2, 11, 6};
        for (int i = 0; i < texts.length; i++) {
            int want = faults[i] < 0 ? 1 : -100 - faults[i];
            t.due("8: law() of " + texts[i], Due.law(new DoorsForThree(), texts[i]), want);
        }
    }

    /** SIZE 3, liked, DAY 10, AGE 7, 2 days late, not SEEN. */
    private static int value(String text) {
        DoorsForThree x = new DoorsForThree();
        Due.doors(x, 10, 4, 3);
        x.child(7, 4);
        t.due("8: law() of " + text, Due.law(x, text), 1);
        return x.worth(0, 2);
    }

    private static void promise8Values() {
        String[] texts = {"s", "w", "d", "a", "n", "k", "!k", "!s", "42", "0042", "9999", "-1", "--5", "!!s", "-s+5", "-(s-5)", "10-3-2", "2+3*4",
            "(2+3)*4", "20/3/2", "20%7%4", "0-7/2+10", "-7/2+10", "-7%4+10", "7/0", "7%0", "7/(s-3)+1", "1<2", "2<1", "2=2", "2>1", "1>2", "1<2+5",
            "3<2|5", "0|0", "4|0", "4&2", "4&0", "0|1&0", "1|0&0", "!0&!0", "0?5", "1?5", "0?5;6", "0?5;1?7;9", "0?5;0?7;9", "5;6", "0;6",
            "9999*9999*9999", "9999*9999", "1<2=1?3", "-1?8", "s*4+w*a-n*2+(d=24)*9-k*3", "0-9999*9999*9999", "s<4&d>9|k", "-!0+5", "!-0", "50-3*4%5",
            "(d=10)*20+(a=7)*30+(n=2)*40"};
        int[] values = {3, 1, 10, 7, 2, 0, 1, 0, 42, 42, 99, 0, 5, 1, 2, 2, 5, 14,
            20, 3, 2, 7, 7, 7, 0, 0, 1, 1, 0, 1, 1, 0, 1,
            1, 0, 1, 1, 0, 0, 1, 1, 0, 5, 6, 7, 9, 5, 0,
            0, 99, -1, 8, 15, 99, 1, 4, 1, 48,
            90};
        for (int i = 0; i < texts.length; i++) {
            if (values[i] >= 0) {
                t.due("8: what " + texts[i] + " gives", value(texts[i]), values[i]);
            }
        }
        t.due("8: by 0 they give 0", value("7/0+7%0+5"), 5);
        t.due("8: < gives 1 or 0", value("(2<2)*10+(3<2)*20+(1<2)+5"), 6);
        t.due("8: > gives 1 or 0", value("(2>2)*10+(2>3)*20+(2>1)+5"), 6);
        t.due("8: = gives 1 or 0", value("(2=3)*10+(2=2)+5"), 6);
        t.due("8: & gives 1 or 0", value("(2&-1)*10+(-1&3)+(0&1)*30+(1&0)*30+(0&0)*30+5"), 16);
        t.due("8: | gives 1 or 0", value("(2|-1)*10+(0|3)+(0|0)*30+(-1|0)*20+5"), 36);
        t.due("8: ! gives 1 or 0", value("(!7)*10+(!-1)*20+(!0)+5"), 6);
        // 9999 * 9999 * 9999 is 999700029999, less 233 times 2^32 -1027349969
        t.due("8: ints wrap", value("0-9999*9999*9999/9999/9999"), 10);
        t.due("8: the least int by -1", value("(-2048*1024*1024)/-1=-2048*1024*1024"), 1);
        t.due("8: the least int's rest by -1", value("(-2048*1024*1024)%-1"), 0);
    }

    private static void promise9() {
        DoorsForThree x = new DoorsForThree();
        t.due("9: nobody", x.worth(0, 0), -1);
        Due.doors(x, 5, 1, 9, 6, 2, 1);
        Due.children(x, 7, 1, 9, 3);
        t.due("9: 3 s and 4 w", x.worth(0, 0), 31);
        t.due("9: not liked", x.worth(1, 0), 27);
        t.due("9: a day older", x.worth(0, 1), 30);
        t.due("9: 24 days", x.worth(0, 24), 7);
        t.due("9: 0 at least", x.worth(0, 104), 0);
        t.due("9: late by 25", x.worth(0, 25), -1);
        t.due("9: late by 99", x.worth(0, 99), -1);
        t.due("9: no such DOOR", x.worth(0, 200), -1);
        t.due("9: below", x.worth(0, -1), -1);
        t.due("9: no such child", x.worth(2, 0), -1);
        t.due("9: child -1", x.worth(-1, 0), -1);
        x.mend(0, 9, 3);
        t.due("9: SPOILS", x.worth(0, 2), 25);
        x.mend(0, 9, 0);
        t.due("9: SPOILS 0", x.worth(0, 24), 31);
        x.mend(0, 6, 1);
        x.mend(0, 7, 24);
        t.due("9: being away does not matter", x.worth(0, 0), 31);
        x.mend(0, 8, 1);
        Due.law(x, "k*50+s+n");
        t.due("9: SEEN in the law", x.worth(1, 4), 63);
        Due.law(x, "0-5");
        t.due("9: held at 0", x.worth(1, 0), 0);
        Due.law(x, "s*11+1");
        t.due("9: held at 99", x.worth(1, 0), 99);
    }
}
