/** What the tests share: a count of wrong answers, and short ways to set a calendar up. */
final class Due {
    private int wrong = 0;

    void due(String call, long got, long want) {
        if (got != want) {
            wrong++;
            System.out.println(call + " answered " + got + ", due is " + want);
        }
    }

    void due(String call, boolean holds) {
        due(call, holds ? 1 : 0, 1);
    }

    void end() {
        if (wrong != 0) {
            System.out.println(wrong + " answers are not as due");
            System.exit(1);
        }
    }

    /** Feeds a text and makes it THE LAW: what law() answered. */
    static int law(DoorsForThree x, String text) {
        for (char letter : text.toCharArray()) {
            x.feed(letter);
        }
        return x.law();
    }

    /** A ROW of bytes on a SHELF. */
    static void bytes(DoorsForThree x, int shelf, int... values) {
        x.row(shelf, 0, values.length);
        for (int i = 0; i < values.length; i++) {
            x.put(shelf, i, values[i]);
        }
    }

    /** DOORS by threes: DAY, WHAT, SIZE. */
    static void doors(DoorsForThree x, int... threes) {
        for (int i = 0; i + 2 < threes.length; i += 3) {
            int door = x.door(threes[i], threes[i + 1]);
            x.mend(door, 2, threes[i + 2]);
        }
    }

    /** CHILDREN by twos: AGE, LIKES. */
    static void children(DoorsForThree x, int... twos) {
        for (int i = 0; i + 1 < twos.length; i += 2) {
            x.child(twos[i], twos[i + 1]);
        }
    }

    static void awayFrom(DoorsForThree x, int child, int from, int till) {
        x.mend(child, 6, from);
        x.mend(child, 7, till);
    }
}
