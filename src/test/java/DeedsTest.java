/** Promises 29 to 36: days, doors in deed, the image, undone and done again. */
public final class DeedsTest {
    private static final Due t = new Due();

    public static void main(String[] args) {
        promise29();
        promise30();
        promise31();
        promise32();
        promises33And34();
        promises35And36();
        promise35Kept();
        t.end();
    }

    private static DoorsForThree calendar() {
        DoorsForThree x = new DoorsForThree();
        Due.doors(x, 3, 0, 1, 1, 1, 2, 6, 2, 1);
        Due.children(x, 7, 0, 9, 1);
        return x;
    }

    private static void pass(DoorsForThree x, int days) {
        for (int i = 0; i < days; i++) {
            x.day();
        }
    }

    private static void promise29() {
        DoorsForThree x = new DoorsForThree();
        for (int day = 1; day <= 24; day++) {
            t.due("29: the next DAY", x.day(), day);
        }
        t.due("29: it is 24", x.day(), -5);
        t.due("29: and stays so", x.led(3), 24);
    }

    private static void promise30() {
        DoorsForThree x = calendar();
        t.due("30: no such child", x.open(2, 0), -1);
        t.due("30: child -1", x.open(-1, 0), -1);
        t.due("30: no such DOOR", x.open(0, 3), -1);
        t.due("30: DOOR -1", x.open(0, -1), -1);
        t.due("30: early", x.open(0, 0), 7);
        t.due("30: it is open", x.open(1, 0), -5);
        t.due("30: for the same child too", x.open(0, 0), -5);
        t.due("30: BAD ahead of STATE", x.open(2, 0), -1);
        pass(x, 6);
        t.due("30: five days late", x.open(1, 1), 5);
        Due.awayFrom(x, 0, 1, 24);
        t.due("30: on its DAY, away or not, whosever it is", x.open(0, 2), 3);
        t.due("30: by whom", x.of(1, 10), 1);
        // SIZE of door 1, FROM and TILL
        t.due("30: deeds are no CHANGES", x.count(3), 3);
        DoorsForThree y = calendar();
        Due.law(y, "n*10+1");
        pass(y, 4);
        t.due("30: by the law, a day late", y.open(0, 0), 11);
        t.due("30: by the law, early", y.open(0, 2), 1);
    }

    private static void promise31() {
        DoorsForThree x = calendar();
        t.due("31: DAY 0", x.forgotten(), 0);
        pass(x, 3);
        t.due("31: DAY 3: one behind", x.forgotten(), 2);
        pass(x, 1);
        t.due("31: DAY 4", x.forgotten(), 3);
        x.open(0, 1);
        t.due("31: closed ones alone", x.forgotten(), 1);
        pass(x, 20);
        t.due("31: DAY 24", x.forgotten(), 5);
        x.door(24, 0);
        t.due("31: DAY 24 is not behind", x.forgotten(), 5);
    }

    private static void promise32() {
        DoorsForThree x = calendar();
        pass(x, 3);
        x.open(0, 0);
        t.due("32: on its DAY is not early", x.led(1), 0);
        x.open(0, 2);
        x.open(1, 1);
        t.due("32: opened", x.led(0), 3);
        t.due("32: early", x.led(1), 1);
        t.due("32: WORTH", x.led(2), 7 + 3 + 8);
        t.due("32: DAY", x.led(3), 3);
        t.due("32: what 4", x.led(4), -1);
        t.due("32: what -1", x.led(-1), -1);
        x.mend(2, 0, 1);
        x.mend(0, 2, 9);
        t.due("32: what was early stays so", x.led(1), 1);
        t.due("32: what it was WORTH stays so", x.led(2), 18);
    }

    private static void promises33And34() {
        DoorsForThree x = calendar();
        t.due("34: there is none", x.back(), -5);
        pass(x, 2);
        x.open(0, 0);
        t.due("33: opened", x.image(), 1);
        x.door(5, 5);
        x.open(1, 3);
        x.open(1, 1);
        x.mend(1, 2, 5);
        pass(x, 3);
        t.due("34: opened", x.back(), 1);
        t.due("34: opened, as LED", x.led(0), 1);
        t.due("34: early", x.led(1), 1);
        t.due("34: WORTH", x.led(2), 7);
        t.due("34: DAY", x.led(3), 2);
        t.due("34: who opened the first", x.of(0, 10), 0);
        t.due("34: closed again", x.of(1, 10), -2);
        t.due("34: came since", x.of(3, 10), -2);
        t.due("34: it came all the same", x.count(0), 4);
        t.due("34: numbers are not laid back", x.of(1, 2), 5);
        x.open(1, 2);
        t.due("34: a second time", x.back(), 1);
        x.open(1, 3);
        t.due("33: a later one", x.image(), 2);
        x.open(1, 2);
        t.due("34: to the later one", x.back(), 2);
        t.due("34: as it was there", x.of(3, 10), 1);
    }

    private static void promises35And36() {
        DoorsForThree x = calendar();
        DoorsForThree y = new DoorsForThree();
        t.due("35: none", y.undo(), -5);
        t.due("36: none", y.redo(), -5);
        // SIZE 2 of door 1 came by mend()
        t.due("35: one came so far", x.count(3), 1);
        x.mend(0, 0, 8);
        x.mend(0, 0, 8);
        t.due("35: the same number is no CHANGE", x.count(3), 2);
        x.mend(0, 0, 9);
        x.mend(1, 3, 4);
        x.mend(0, 8, 1);
        t.due("35: SEEN again", x.undo(), 4);
        t.due("35: it is so", x.of(0, 8), 0);
        t.due("35: AGE", x.undo(), 3);
        t.due("35: it is so too", x.of(1, 3), 9);
        t.due("35: DAY 9", x.undo(), 2);
        t.due("35: DAY 8 again", x.of(0, 0), 8);
        t.due("36: how many may still be", x.redo(), 2);
        t.due("36: DAY 9 again", x.of(0, 0), 9);
        x.mend(0, 0, 9);
        t.due("36: no CHANGE came", x.redo(), 1);
        x.door(3, 3);
        x.open(0, 0);
        x.day();
        t.due("36: deeds are none", x.redo(), 0);
        t.due("36: SEEN 1 again", x.of(0, 8), 1);
        t.due("36: none any more", x.redo(), -5);
        x.undo();
        x.mend(0, 9, 4);
        t.due("36: another came behind", x.redo(), -5);
        t.due("36: SEEN stays", x.of(0, 8), 0);
        t.due("35: that one goes first", x.undo(), 4);
        t.due("35: SPOILS again", x.of(0, 9), 1);
        x.mend(0, 9, 99);
        t.due("36: a refused one is no CHANGE", x.redo(), 0);
        t.due("36: SPOILS 4 counts", x.worth(0, 101), 2);
        x.undo();
        t.due("35: SPOILS 1 counts", x.worth(0, 101), 5);
    }

    private static void promise35Kept() {
        DoorsForThree x = new DoorsForThree();
        x.door(1, 0);
        for (int i = 0; i < 44; i++) {
            x.mend(0, 0, 2 + i % 20);
        }
        t.due("35: 40 are kept", x.count(3), 40);
        for (int i = 39; i >= 0; i--) {
            t.due("35: the latest first", x.undo(), i);
            t.due("35: back to the one before", x.of(0, 0), 2 + (i + 3) % 20);
        }
        t.due("35: no more", x.undo(), -5);
        t.due("35: the first four stay", x.of(0, 0), 5);
        for (int i = 39; i >= 0; i--) {
            t.due("36: all again", x.redo(), i);
        }
        t.due("36: the latest number", x.of(0, 0), 2 + 43 % 20);
        t.due("36: 40 again", x.count(3), 40);
    }
}
