import java.io.IOException;
import java.nio.file.Files;
import java.nio.file.Path;

/** What the tests share: a count of wrong answers, and short ways to set a calendar up. */
final class Due {
    private static final int MOST_TOLD = 40;
    private static final Path DOCUMENT = Path.of("../shared/DOC.md");
    private static String document = null;

    private int wrong = 0;
    private String sentence = "";

    void due(String call, long got, long want) {
        if (got != want) {
            wrong++;
            if (wrong <= MOST_TOLD) {
                System.out.println(call + " answered " + got + ", due is " + want);
            }
        }
    }

    /** The sentence that the calls behind this one test: its words must stand in the document. */
    void says(String words) {
        sentence = words;
        due("the document says: " + words, read().isEmpty() || read().contains(words));
    }

    /** As due(), told with the sentence. */
    void edge(String call, long got, long want) {
        due("[" + sentence + "] " + call, got, want);
    }

    void edge(String call, boolean holds) {
        edge(call, holds ? 1 : 0, 1);
    }

    private static String read() {
        if (document == null) {
            try {
                document = Files.readString(DOCUMENT).replaceAll("\\s+", " ");
            } catch (IOException e) {
                System.out.println(DOCUMENT + " is not there: its words are not looked for");
                document = "";
            }
        }
        return document;
    }

    void due(String call, boolean holds) {
        due(call, holds ? 1 : 0, 1);
    }

    void end() {
        if (wrong != 0) {
            System.out.println(wrong + " answers are not as due");
            System.exit(1);
        }
    }

    /** Feeds a text and makes it THE LAW: what law() answered. */
    static int law(DoorsForThree x, String text) {
        for (char letter : text.toCharArray()) {
            x.feed(letter);
        }
        return x.law();
    }

    /** A ROW of bytes on a SHELF. */
    static void bytes(DoorsForThree x, int shelf, int... values) {
        x.row(shelf, 0, values.length);
        for (int i = 0; i < values.length; i++) {
            x.put(shelf, i, values[i]);
        }
    }

    /** DOORS by threes: DAY, WHAT, SIZE. */
    static void doors(DoorsForThree x, int... threes) {
        for (int i = 0; i + 2 < threes.length; i += 3) {
            int door = x.door(threes[i], threes[i + 1]);
            x.mend(door, 2, threes[i + 2]);
        }
    }

    /** CHILDREN by twos: AGE, LIKES. */
    static void children(DoorsForThree x, int... twos) {
        for (int i = 0; i + 1 < twos.length; i += 2) {
            x.child(twos[i], twos[i + 1]);
        }
    }

    /** DOORS of DAY 5 and CHILDREN who do not like their WHAT: each DOOR is WORTH 3 to each child. */
    static DoorsForThree alike(int doors, int children) {
        DoorsForThree x = new DoorsForThree();
        for (int i = 0; i < doors; i++) {
            x.door(5, 7);
        }
        for (int i = 0; i < children; i++) {
            x.child(9, 0);
        }
        return x;
    }

    static void awayFrom(DoorsForThree x, int child, int from, int till) {
        x.mend(child, 6, from);
        x.mend(child, 7, till);
    }
}
