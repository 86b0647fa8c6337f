/** Section 4 of the document and promises 29 to 36, each sentence that names an edge: days, deeds, the image, changes. */
public final class EdgesDeedsTest {
    private static final int MIN = Integer.MIN_VALUE, MAX = Integer.MAX_VALUE;
    private static final Due t = new Due();

    public static void main(String[] args) {
        dayTwentyFour();
        openOnce();
        openEarlyOrLate();
        openWorth();
        openNumbers();
        forgottenBehind();
        forgottenBits();
        ledSums();
        ledEarlyStays();
        ledNumbers();
        imageNone();
        imageKeeps();
        imageOfNothing();
        imageOfTheLatest();
        imageAgainAndAgain();
        imageAndDoorsSince();
        imageKeepsNoNumbers();
        changesLatestFirst();
        changesOfAllNumbers();
        changesFortyKept();
        changesFortyAndOne();
        changesSameIsNone();
        changesRefusedIsNone();
        changesDoneAgain();
        changesOtherBehind();
        changesAfterFortyUndone();
        changesDeedsAreNone();
        changesCount();
        t.end();
    }

    private static DoorsForThree calendar() {
        DoorsForThree x = new DoorsForThree();
        x.door(3, 0);
        x.door(24, 1);
        x.door(1, 2);
        Due.children(x, 9, 0, 9, 7);
        return x;
    }

    private static void pass(DoorsForThree x, int days) {
        for (int i = 0; i < days; i++) {
            x.day();
        }
    }

    private static void led(DoorsForThree x, int opened, int early, int worth, int day) {
        t.edge("opened", x.led(0), opened);
        t.edge("early", x.led(1), early);
        t.edge("WORTH", x.led(2), worth);
        t.edge("DAY", x.led(3), day);
    }

    private static void dayTwentyFour() {
        t.says("it is DAY 0; a DAY passes (24 at most)");
        DoorsForThree x = new DoorsForThree();
        t.edge("at first", x.led(3), 0);
        for (int day = 1; day <= 24; day++) {
            t.edge("the DAY then", x.day(), day);
            t.edge("it is so", x.led(3), day);
        }
        t.says("A DAY passes: the DAY then. STATE: it is 24.");
        t.edge("the 25th", x.day(), -5);
        t.edge("and again", x.day(), -5);
        led(x, 0, 0, 0, 24);
        x.image();
        t.edge("still", x.day(), -5);
    }

    private static void openOnce() {
        t.says("a child OPENS a DOOR (once each; EARLY, if its DAY is not yet come)");
        DoorsForThree x = calendar();
        pass(x, 3);
        t.edge("the first time", x.open(1, 0), 3);
        t.edge("the same child again", x.open(1, 0), -5);
        t.edge("another child", x.open(0, 0), -5);
        led(x, 1, 0, 3, 3);
        t.edge("who opened it", x.of(0, 10), 1);
        t.edge("another DOOR", x.open(1, 2), 1);
        DoorsForThree y = new DoorsForThree();
        y.child(9, 0);
        for (int door = 0; door < 12; door++) {
            y.door(1, 7);
            t.edge("each once", y.open(0, door), 3);
            t.edge("not twice", y.open(0, door), -5);
        }
        led(y, 12, 12, 36, 0);
    }

    private static void openEarlyOrLate() {
        t.says("EARLY, if its DAY is not yet come");
        DoorsForThree x = new DoorsForThree();
        Due.doors(x, 1, 7, 1, 2, 7, 1, 3, 7, 1, 24, 7, 1);
        x.child(9, 0);
        pass(x, 2);
        t.edge("on its DAY", x.open(0, 1), 3);
        led(x, 1, 0, 3, 2);
        t.edge("the DAY ahead", x.open(0, 2), 3);
        led(x, 2, 1, 6, 2);
        t.edge("the DAY behind", x.open(0, 0), 2);
        led(x, 3, 1, 8, 2);
        pass(x, 22);
        t.edge("the last on its DAY", x.open(0, 3), 3);
        led(x, 4, 1, 11, 24);
        DoorsForThree y = new DoorsForThree();
        Due.doors(y, 1, 7, 1, 24, 7, 1);
        y.child(9, 0);
        y.open(0, 0);
        y.open(0, 1);
        led(y, 2, 2, 6, 0);
    }

    private static void openWorth() {
        t.says("what it is WORTH to it, n the days it is late (EARLY: 0)");
        DoorsForThree x = new DoorsForThree();
        for (int door = 0; door < 12; door++) {
            x.door(1 + 2 * door, 7);
        }
        Due.children(x, 9, 7, 10, 0);
        Due.law(x, "n+10*w");
        pass(x, 11);
        int[] late = {10, 8, 6, 4, 2, 0, 0, 0, 0, 0, 0, 0};
        for (int door = 0; door < 12; door++) {
            t.edge("DOOR " + door, x.open(1 - door % 2, door), late[door] + 10 * (door % 2));
        }
        DoorsForThree y = calendar();
        pass(y, 24);
        Due.law(y, "n");
        t.edge("23 days late", y.open(0, 2), 23);
        Due.law(y, "0-n");
        t.edge("0 at least", y.open(0, 0), 0);
        led(y, 2, 0, 23, 24);
        DoorsForThree z = calendar();
        Due.awayFrom(z, 0, 1, 24);
        pass(z, 2);
        t.edge("who is away opens all the same", z.open(0, 0), 7);
        t.edge("without a text, a day late", z.open(1, 2), 2);
    }

    private static void openNumbers() {
        t.says("A child OPENS a DOOR: what it is WORTH. BAD; STATE: it is open.");
        DoorsForThree x = calendar();
        int[] children = {-1, 2, 5, MIN, MAX};
        for (int child : children) {
            t.edge("open(" + child + ", 0)", x.open(child, 0), -1);
        }
        int[] doors = {-1, 3, 12, MIN, MAX};
        for (int door : doors) {
            t.edge("open(0, " + door + ")", x.open(0, door), -1);
        }
        led(x, 0, 0, 0, 0);
        t.edge("nobody opened it", x.of(0, 10), -2);
        x.open(0, 0);
        t.edge("BAD ahead of STATE", x.open(2, 0), -1);
        led(x, 1, 1, 7, 0);
        DoorsForThree y = new DoorsForThree();
        y.door(1, 1);
        t.edge("no CHILDREN", y.open(0, 0), -1);
    }

    private static void forgottenBehind() {
        t.says("FORGOTTEN ones: closed, their DAY behind.");
        DoorsForThree x = new DoorsForThree();
        x.door(1, 7);
        x.door(2, 7);
        x.door(24, 7);
        x.child(9, 0);
        int[] due = new int[25];
        for (int day = 0; day <= 24; day++) {
            due[day] = (day > 1 ? 1 : 0) + (day > 2 ? 2 : 0);
            t.edge("on DAY " + day, x.forgotten(), due[day]);
            x.day();
        }
        x.open(0, 0);
        t.edge("one is open now", x.forgotten(), 2);
        x.mend(2, 0, 23);
        t.edge("one has another DAY now", x.forgotten(), 2 + 4);
        x.mend(1, 0, 24);
        t.edge("one is of today", x.forgotten(), 4);
    }

    private static void forgottenBits() {
        t.says("FORGOTTEN: bits of DOORS.");
        DoorsForThree x = new DoorsForThree();
        t.edge("no DOORS", x.forgotten(), 0);
        x.child(9, 0);
        pass(x, 2);
        for (int door = 0; door < 12; door++) {
            x.door(1, 7);
            t.edge("so many", x.forgotten(), (1 << door + 1) - 1);
        }
        for (int door = 0; door < 12; door++) {
            x.open(0, door);
            t.edge("the others", x.forgotten(), 4096 - (1 << door + 1));
        }
    }

    private static void ledSums() {
        t.says("LED: opened, early, WORTH, DAY.");
        DoorsForThree x = calendar();
        led(x, 0, 0, 0, 0);
        x.open(0, 0);
        led(x, 1, 1, 7, 0);
        pass(x, 3);
        x.open(1, 2);
        led(x, 2, 1, 8, 3);
        x.open(1, 1);
        led(x, 3, 2, 11, 3);
        x.open(1, 1);
        led(x, 3, 2, 11, 3);
        DoorsForThree y = calendar();
        Due.law(y, "0");
        y.open(0, 0);
        led(y, 1, 1, 0, 0);
        Due.law(y, "9999");
        y.open(0, 1);
        y.open(0, 2);
        led(y, 3, 3, 198, 0);
    }

    private static void ledEarlyStays() {
        t.says("EARLY, if its DAY is not yet come");
        DoorsForThree x = calendar();
        x.open(0, 0);
        pass(x, 5);
        led(x, 1, 1, 7, 5);
        x.mend(0, 0, 24);
        x.mend(0, 2, 9);
        Due.law(x, "50");
        led(x, 1, 1, 7, 5);
    }

    private static void ledNumbers() {
        t.says("LED: opened (what 0), early (1), WORTH (2), the DAY (3). BAD.");
        DoorsForThree x = calendar();
        int[] whats = {-1, 4, MIN, MAX};
        for (int what : whats) {
            t.edge("led(" + what + ")", x.led(what), -1);
        }
    }

    private static void imageNone() {
        t.says("opened. STATE: there is none.");
        DoorsForThree x = calendar();
        x.open(0, 0);
        x.day();
        t.edge("none", x.back(), -5);
        t.edge("and again", x.back(), -5);
        led(x, 1, 1, 7, 1);
        t.edge("who opened it stays", x.of(0, 10), 0);
    }

    private static void imageKeeps() {
        t.says("AN IMAGE keeps who opened what, the DAY, what LED tells.");
        DoorsForThree x = calendar();
        pass(x, 2);
        x.open(1, 0);
        x.open(0, 2);
        t.edge("opened", x.image(), 2);
        x.open(0, 1);
        pass(x, 22);
        led(x, 3, 2, 3 + 2 + 3, 24);
        t.edge("it is laid back", x.back(), 2);
        led(x, 2, 1, 5, 2);
        t.edge("who opened 0", x.of(0, 10), 1);
        t.edge("who opened 1", x.of(1, 10), -2);
        t.edge("who opened 2", x.of(2, 10), 0);
        t.edge("0 is open", x.open(0, 0), -5);
        t.edge("1 can be opened again", x.open(1, 1), 3);
        t.edge("a DAY passes again", x.day(), 3);
    }

    private static void imageOfNothing() {
        t.says("AN IMAGE is kept: opened.");
        DoorsForThree x = new DoorsForThree();
        t.edge("of a new object", x.image(), 0);
        x.child(9, 0);
        x.door(1, 0);
        x.open(0, 0);
        x.day();
        t.edge("back to it", x.back(), 0);
        led(x, 0, 0, 0, 0);
        t.edge("nobody opened it", x.of(0, 10), -2);
        t.edge("it is there all the same", x.count(0), 1);
        t.edge("forgotten too", x.forgotten(), 0);
    }

    private static void imageOfTheLatest() {
        t.says("AN IMAGE is kept: opened.");
        DoorsForThree x = calendar();
        t.edge("the first", x.image(), 0);
        x.open(0, 0);
        x.day();
        t.edge("the second", x.image(), 1);
        x.open(0, 1);
        x.day();
        t.edge("back to the second", x.back(), 1);
        led(x, 1, 1, 7, 1);
        t.edge("an image of what was laid back", x.image(), 1);
        t.edge("the same", x.back(), 1);
    }

    private static void imageAgainAndAgain() {
        t.says("It is laid back");
        DoorsForThree x = calendar();
        x.open(0, 0);
        x.image();
        for (int i = 0; i < 3; i++) {
            x.open(1, 1);
            x.day();
            t.edge("laid back", x.back(), 1);
            led(x, 1, 1, 7, 0);
            t.edge("nobody opened 1", x.of(1, 10), -2);
        }
    }

    private static void imageAndDoorsSince() {
        t.says("(DOORS that came since: nobody opened them)");
        DoorsForThree x = calendar();
        x.image();
        for (int door = 3; door < 12; door++) {
            x.door(1, 1);
            x.open(0, door);
        }
        t.edge("laid back", x.back(), 0);
        for (int door = 0; door < 12; door++) {
            t.edge("nobody opened " + door, x.of(door, 10), -2);
        }
        t.edge("they are there", x.count(0), 12);
        t.edge("one that came since is opened", x.open(0, 11), 3);
        led(x, 1, 1, 3, 0);
    }

    private static void imageKeepsNoNumbers() {
        t.says("AN IMAGE keeps who opened what, the DAY, what LED tells.");
        DoorsForThree x = calendar();
        x.image();
        x.mend(0, 2, 5);
        x.child(3, 3);
        Due.law(x, "42");
        x.body(0);
        x.feed('s');
        x.back();
        t.edge("SIZE is none of it", x.of(0, 2), 5);
        t.edge("a child came all the same", x.count(1), 3);
        t.edge("the law stays", x.worth(0, 0), 42);
        t.edge("the tape stays", x.count(2), 1);
        t.edge("the BODIES stay", x.count(4), 1);
        t.edge("the CHANGES stay", x.count(3), 1);
        t.edge("and can be UNDONE", x.undo(), 0);
        t.edge("SIZE as it was", x.of(0, 2), 1);
        x.back();
        t.edge("DONE AGAIN behind the image too", x.redo(), 0);
        t.edge("SIZE once more", x.of(0, 2), 5);
    }

    private static void changesLatestFirst() {
        t.says("CHANGES (all numbers of mend(); telling the same number is none) can be UNDONE, the latest first, and DONE AGAIN");
        DoorsForThree x = calendar();
        t.says("UNDONE: how many may still be. STATE: none.");
        t.edge("none", x.undo(), -5);
        t.edge("none to be DONE AGAIN", x.redo(), -5);
        x.mend(0, 0, 5);
        x.mend(0, 0, 6);
        x.mend(1, 0, 7);
        t.edge("the third", x.undo(), 2);
        t.edge("DAY of 1", x.of(1, 0), 24);
        t.edge("DAY of 0", x.of(0, 0), 6);
        t.edge("the second", x.undo(), 1);
        t.edge("DAY of 0", x.of(0, 0), 5);
        t.edge("the first", x.undo(), 0);
        t.edge("DAY of 0", x.of(0, 0), 3);
        t.edge("no more", x.undo(), -5);
        t.edge("the first again", x.redo(), 2);
        t.edge("DAY of 0", x.of(0, 0), 5);
        t.edge("the second again", x.redo(), 1);
        t.edge("DAY of 0", x.of(0, 0), 6);
        t.edge("the third again", x.redo(), 0);
        t.edge("DAY of 1", x.of(1, 0), 7);
        t.edge("no more again", x.redo(), -5);
        t.edge("and UNDONE again", x.undo(), 2);
    }

    private static void changesOfAllNumbers() {
        t.says("CHANGES (all numbers of mend()");
        DoorsForThree x = calendar();
        int[] first = new int[10];
        int[] other = {9, 5, 4, 3, 2, 1, 7, 8, 1, 6};
        for (int what = 0; what <= 9; what++) {
            first[what] = x.of(0, what);
            x.mend(0, what, other[what]);
        }
        for (int what = 9; what >= 0; what--) {
            t.edge("UNDONE: how many may still be", x.undo(), what);
            for (int w = 0; w <= 9; w++) {
                t.edge("what " + w, x.of(0, w), w < what ? other[w] : first[w]);
            }
        }
        for (int what = 0; what <= 9; what++) {
            t.edge("DONE AGAIN: how many may still be", x.redo(), 9 - what);
            t.edge("what " + what, x.of(0, what), other[what]);
        }
        Due.law(x, "s+k*20+a");
        t.edge("they count in what is WORTH", x.worth(0, 0), 4 + 20 + 3);
        for (int i = 0; i < 10; i++) {
            x.undo();
        }
        t.edge("as at first", x.worth(0, 0), 1 + 9);
        t.edge("in the giving, too", x.all(0), 20);
    }

    /** So many CHANGES of DAY of DOOR 0, each to another one. */
    private static void mendDays(DoorsForThree x, int many) {
        for (int i = 1; i <= many; i++) {
            x.mend(0, 0, day(i));
        }
    }

    private static int day(int i) {
        return i == 0 ? 3 : 1 + (i + 3) % 24;
    }

    private static void changesFortyKept() {
        t.says("40 at most are kept");
        DoorsForThree x = calendar();
        mendDays(x, 39);
        t.edge("39", x.count(3), 39);
        x.mend(0, 0, day(40));
        t.edge("40", x.count(3), 40);
        for (int i = 39; i >= 0; i--) {
            t.edge("how many may still be", x.undo(), i);
            t.edge("DAY", x.of(0, 0), day(i));
        }
        t.edge("no more", x.undo(), -5);
        t.edge("as at first", x.of(0, 0), 3);
        for (int i = 1; i <= 40; i++) {
            t.edge("how many may still be DONE AGAIN", x.redo(), 40 - i);
            t.edge("DAY", x.of(0, 0), day(i));
        }
        t.edge("no more again", x.redo(), -5);
        t.edge("40 again", x.count(3), 40);
    }

    private static void changesFortyAndOne() {
        t.says("40 at most are kept");
        for (int more = 1; more <= 45; more += 4) {
            DoorsForThree x = calendar();
            mendDays(x, 40 + more);
            t.edge("40 of " + (40 + more), x.count(3), 40);
            for (int i = 39; i >= 0; i--) {
                t.edge("how many may still be", x.undo(), i);
            }
            t.edge("the oldest are no more", x.undo(), -5);
            t.edge("they stay as they are", x.of(0, 0), day(more));
            t.edge("the first of the 40 again", x.redo(), 39);
            t.edge("DAY", x.of(0, 0), day(more + 1));
        }
    }

    private static void changesSameIsNone() {
        t.says("telling the same number is none");
        DoorsForThree x = calendar();
        for (int what = 0; what <= 9; what++) {
            t.edge("what " + what, x.mend(0, what, x.of(0, what)), x.of(0, what));
            t.edge("none", x.count(3), 0);
        }
        x.mend(0, 0, 9);
        x.mend(0, 0, 9);
        t.edge("one", x.count(3), 1);
        x.undo();
        x.mend(0, 0, 3);
        t.edge("it does not end what may be DONE AGAIN", x.redo(), 0);
        t.edge("DAY", x.of(0, 0), 9);
    }

    private static void changesRefusedIsNone() {
        t.says("What is answered so changes nothing.");
        DoorsForThree x = calendar();
        x.mend(0, 0, 9);
        x.undo();
        int[][] refused = {{0, 0, 0}, {0, 0, 25}, {3, 0, 9}, {0, 2, 10}, {2, 3, 9}, {0, 8, 2}, {1, 9, 3}, {0, 10, 1}, {0, -1, 1}};
        for (int[] r : refused) {
            t.edge("mend(" + r[0] + ", " + r[1] + ", " + r[2] + ")", x.mend(r[0], r[1], r[2]), -1);
            t.edge("no CHANGE", x.count(3), 0);
        }
        t.edge("it may still be DONE AGAIN", x.redo(), 0);
        t.edge("DAY", x.of(0, 0), 9);
    }

    private static void changesDoneAgain() {
        t.says("DONE AGAIN: how many may still be. STATE: none.");
        DoorsForThree x = calendar();
        mendDays(x, 5);
        x.undo();
        x.undo();
        t.edge("of two", x.redo(), 1);
        x.undo();
        t.edge("of two again", x.redo(), 1);
        t.edge("the last", x.redo(), 0);
        t.edge("none", x.redo(), -5);
        t.edge("none again", x.redo(), -5);
        t.edge("all five may be UNDONE", x.count(3), 5);
        t.edge("DAY", x.of(0, 0), day(5));
    }

    private static void changesOtherBehind() {
        t.says("DONE AGAIN (as long as no other came behind)");
        DoorsForThree x = calendar();
        mendDays(x, 3);
        x.undo();
        x.undo();
        x.mend(1, 1, 6);
        t.edge("another came behind", x.redo(), -5);
        t.edge("DAY stays", x.of(0, 0), day(1));
        t.edge("two may be UNDONE", x.count(3), 2);
        t.edge("the other first", x.undo(), 1);
        t.edge("WHAT of 1", x.of(1, 1), 1);
        t.edge("then the first", x.undo(), 0);
        t.edge("DAY as at first", x.of(0, 0), 3);
        t.edge("both again", x.redo(), 1);
        t.edge("both again, the other", x.redo(), 0);
        t.edge("WHAT of 1 again", x.of(1, 1), 6);
        x.undo();
        x.mend(1, 1, 6);
        t.edge("the same one told anew is another one, too", x.redo(), -5);
    }

    private static void changesAfterFortyUndone() {
        t.says("40 at most are kept; deeds are none");
        DoorsForThree x = calendar();
        mendDays(x, 40);
        x.undo();
        x.mend(1, 1, 6);
        t.edge("40 again", x.count(3), 40);
        t.edge("that one first", x.undo(), 39);
        t.edge("WHAT of 1", x.of(1, 1), 1);
        for (int i = 38; i >= 0; i--) {
            t.edge("how many may still be", x.undo(), i);
            t.edge("DAY", x.of(0, 0), day(i));
        }
        t.edge("none", x.undo(), -5);
        x.mend(1, 1, 6);
        t.edge("one behind none", x.count(3), 1);
        t.edge("none of the 40 again", x.redo(), -5);
    }

    private static void changesDeedsAreNone() {
        t.says("40 at most are kept; deeds are none");
        DoorsForThree x = calendar();
        x.mend(0, 0, 9);
        x.undo();
        x.day();
        x.open(0, 0);
        x.image();
        x.back();
        x.door(5, 5);
        x.child(5, 5);
        Due.law(x, "s+1");
        x.body(0);
        x.act(0, 0, 0);
        x.row(0, 0, 1);
        t.edge("none came", x.count(3), 0);
        t.edge("it may still be DONE AGAIN", x.redo(), 0);
        t.edge("DAY", x.of(0, 0), 9);
        t.edge("UNDONE", x.undo(), 0);
        led(x, 1, 1, 7, 1);
        t.edge("the DOOR that came stays", x.count(0), 4);
        t.edge("it stays open", x.of(0, 10), 0);
    }

    private static void changesCount() {
        t.says("3 changes that may be UNDONE");
        DoorsForThree x = calendar();
        for (int i = 1; i <= 45; i++) {
            x.mend(0, 0, day(i));
            t.edge("so many", x.count(3), Math.min(i, 40));
        }
        x.undo();
        t.edge("39", x.count(3), 39);
        x.redo();
        t.edge("40", x.count(3), 40);
    }
}
