/** Section 1 of the document and promises 7 to 9, each sentence that names an edge: the tape, the law's text, what a door is worth. */
public final class EdgesLawTest {
    private static final int MIN = Integer.MIN_VALUE, MAX = Integer.MAX_VALUE;
    private static final String NAMES = "swdank", DIGITS = "0123456789", AHEAD = "(!-", SIGNS = "|&<=>+-*/%";
    private static final Due t = new Due();

    public static void main(String[] args) {
        tapeBytes();
        tapeFull();
        tapeEmptied();
        lawStaysAtAFault();
        lawEmptyTape();
        lines();
        oneQuestionALine();
        comparedOnce();
        digits();
        noBlanks();
        firstBytes();
        bytesBehindAnOperand();
        bytesBehindABracket();
        bytesBehindASign();
        sixOpen();
        sevenOpen();
        openAtOnce();
        faultPlaces();
        faultAtTheLength();
        tighterFirst();
        fromTheLeft();
        wraps();
        towardZero();
        byZero();
        oneOrZero();
        whichLineCounts();
        names();
        heldWithin();
        withoutAText();
        worthNumbers();
        t.end();
    }

    private static int lawOf(String text) {
        return Due.law(new DoorsForThree(), text);
    }

    private static void good(String text) {
        t.edge("law() of " + text, lawOf(text), 1);
    }

    private static void fault(String text, int place) {
        t.edge("law() of " + text, lawOf(text), -100 - place);
    }

    /** SIZE 3, liked, DAY 10, AGE 7, 2 days late, not SEEN. */
    private static int value(String text) {
        DoorsForThree x = new DoorsForThree();
        Due.doors(x, 10, 4, 3);
        x.child(7, 4);
        if (Due.law(x, text) != 1) {
            return MIN;
        }
        return x.worth(0, 2);
    }

    private static void gives(String text, int want) {
        t.edge("what " + text + " gives", value(text), want);
    }

    /** A value of any size, looked at for being just that. */
    private static void is(String text, String that) {
        t.edge(text + " is " + that, value("5+((" + text + ")=" + that + ")"), 6);
    }

    private static void tapeBytes() {
        t.says("A byte (0 .. 255) comes to THE TAPE: how many it has. BAD, FULL (120).");
        DoorsForThree x = new DoorsForThree();
        int[] beyond = {-1, 256, -128, 300, MIN, MAX};
        for (int letter : beyond) {
            t.edge("feed(" + letter + ")", x.feed(letter), -1);
        }
        t.edge("nothing came", x.count(2), 0);
        t.edge("0", x.feed(0), 1);
        t.edge("255", x.feed(255), 2);
        t.edge("two", x.count(2), 2);
        for (int letter : beyond) {
            t.edge("feed(" + letter + ")", x.feed(letter), -1);
        }
        t.edge("still two", x.count(2), 2);
    }

    private static void tapeFull() {
        t.says("THE TAPE (at most 120 bytes)");
        DoorsForThree x = new DoorsForThree();
        for (int i = 1; i <= 120; i++) {
            t.edge("byte " + i, x.feed(i == 120 ? '7' : i % 2 == 1 ? '!' : '\''), i);
        }
        t.edge("FULL", x.feed('1'), -3);
        t.edge("FULL again", x.feed('1'), -3);
        t.edge("BAD ahead of FULL", x.feed(256), -1);
        t.edge("BAD ahead of FULL, below", x.feed(-1), -1);
        t.edge("still 120", x.count(2), 120);
        t.edge("the fault is among the 120", x.law(), -101);
        t.edge("119 bytes are a text", worthBy("1+".repeat(59) + "3"), 62);
        t.edge("120 bytes are a text", worthBy("1+".repeat(58) + "12+3"), 73);
        t.edge("the 121st does not come", worthBy("1+".repeat(58) + "12+34"), 73);
        t.edge("120 bytes that end too early", lawOf("7;" + "1;".repeat(58) + "7*"), -220);
        t.edge("121 bytes that ended too early ahead of the last", lawOf("7;" + "1;".repeat(58) + "7*7"), -220);
    }

    private static int worthBy(String text) {
        DoorsForThree x = new DoorsForThree();
        x.door(1, 1);
        x.child(1, 1);
        return Due.law(x, text) == 1 ? x.worth(0, 0) : MIN;
    }

    private static void tapeEmptied() {
        t.says("THE TAPE becomes THE LAW: 1; -100 less its FAULT; THE TAPE is empty then.");
        DoorsForThree x = new DoorsForThree();
        t.edge("a text", Due.law(x, "s+1"), 1);
        t.edge("empty", x.count(2), 0);
        t.edge("the next is the first", x.feed('x'), 1);
        t.edge("a fault", x.law(), -100);
        t.edge("empty too", x.count(2), 0);
        t.edge("the next is the first again", x.feed('s'), 1);
        t.edge("nothing is left of the fault", x.law(), 1);
        for (int i = 0; i < 120; i++) {
            x.feed('?');
        }
        t.edge("a full one", x.law(), -100);
        t.edge("takes again", x.feed('s'), 1);
    }

    private static void lawStaysAtAFault() {
        t.says("What is answered so changes nothing.");
        DoorsForThree x = new DoorsForThree();
        Due.doors(x, 10, 4, 3);
        x.child(7, 4);
        String[] faulty = {"", "s+", "x", "9;", "8)", "12345", "7?", "((((((("};
        for (String text : faulty) {
            t.edge("no text yet: law() of " + text, Due.law(x, text) <= -100);
            t.edge("3 s and 4 w", x.worth(0, 0), 13);
            t.edge("the giving, too", x.all(0), 13);
        }
        Due.law(x, "77");
        for (String text : faulty) {
            t.edge("law() of " + text, Due.law(x, text) <= -100);
            t.edge("the law is as it was", x.worth(0, 0), 77);
            t.edge("the giving, too", x.all(0), 77);
        }
        t.edge("another text", Due.law(x, "66"), 1);
        t.edge("counts", x.worth(0, 0), 66);
        t.edge("in the giving, too", x.all(0), 66);
    }

    private static void lawEmptyTape() {
        t.says("the length, if it ends too early");
        DoorsForThree x = new DoorsForThree();
        t.edge("nothing on the tape", x.law(), -100);
        t.edge("and again", x.law(), -100);
        Due.law(x, "1");
        t.edge("nothing behind a law", x.law(), -100);
    }

    private static void lines() {
        t.says("LINES, one or more, parted by ;");
        good("1");
        good("1;2");
        good("1;2;3?4;5");
        good("1;".repeat(59) + "1");
        fault("", 0);
        fault(";", 0);
        fault("1;", 2);
        fault(";1", 0);
        fault("1;;2", 2);
        fault("1;2;", 4);
        fault("1;?2", 2);
        fault("(1;2)", 2);
        fault("1+;2", 2);
        fault("1,2", 1);
        fault("1\n2", 1);
    }

    private static void oneQuestionALine() {
        t.says("LINE: E, or E ? E");
        good("1?2");
        good("1?2;3?4;5?6");
        good("1;2?3");
        good("1|2&3?4+5<6");
        fault("?", 0);
        fault("?1", 0);
        fault("1?", 2);
        fault("1??2", 2);
        fault("1?2?3", 3);
        fault("1?2;3?4?5", 7);
        fault("(1?2)", 2);
        fault("1?;2", 2);
        fault("1?2:3", 3);
    }

    private static void comparedOnce() {
        t.says("B = S, or S < S, S = S, S > S");
        for (String first : new String[] {"<", "=", ">"}) {
            good("1" + first + "2");
            fault("1" + first, 2);
            fault(first + "1", 0);
            for (String second : new String[] {"<", "=", ">"}) {
                fault("1" + first + "2" + second + "3", 3);
                fault("1" + first + second + "2", 2);
                fault("1" + first + "2+4" + second + "3", 5);
                good("1" + first + "2&3" + second + "4");
                good("1" + first + "2|3" + second + "4");
                good("1" + first + "2?3" + second + "4");
                good("1" + first + "2;3" + second + "4");
                good("1" + first + "(2" + second + "3)");
                good("(1" + first + "2)" + second + "3");
            }
        }
    }

    private static void digits() {
        t.says("O = a number (1 to 4 digits)");
        good("0");
        good("00");
        good("000");
        good("0000");
        good("9999");
        good("1234+5678*9012");
        fault("00000", 4);
        fault("12345", 4);
        fault("s+12345", 6);
        fault("1+23456789", 6);
        gives("7", 7);
        gives("07", 7);
        gives("0007", 7);
        gives("98", 98);
        is("9999-0", "9999");
        is("1234-234", "1000");
        is("0123", "123");
        is("1020", "1000+20");
    }

    private static void noBlanks() {
        t.says("No blanks.");
        fault(" s", 0);
        fault("s ", 1);
        fault("s +1", 1);
        fault("s+ 1", 2);
        fault("s+1 ", 3);
        fault("1 2", 1);
        fault("( s)", 1);
        fault("s\t", 1);
        fault("s\u0000", 1);
    }

    /** law() of what stands ahead, and each of all bytes behind it. */
    private static void each(String ahead, String goesOn, String isWhole) {
        for (int letter = 0; letter <= 255; letter++) {
            DoorsForThree x = new DoorsForThree();
            for (char c : ahead.toCharArray()) {
                x.feed(c);
            }
            x.feed(letter);
            int want = -100 - ahead.length();
            if (isWhole.indexOf(letter) >= 0) {
                want = 1;
            } else if (goesOn.indexOf(letter) >= 0) {
                want = -100 - ahead.length() - 1;
            }
            t.edge("law() of " + ahead + " and byte " + letter, x.law(), want);
        }
    }

    private static void firstBytes() {
        t.says("FAULT: the place (from 0) of the first byte with which no TEXT goes on; the length, if it ends too early.");
        each("", AHEAD, NAMES + DIGITS);
        each("1;", AHEAD, NAMES + DIGITS);
        each("1?", AHEAD, NAMES + DIGITS);
    }

    private static void bytesBehindAnOperand() {
        t.says("FAULT: the place (from 0) of the first byte with which no TEXT goes on; the length, if it ends too early.");
        each("s", SIGNS + "?;", "");
        each("5", SIGNS + "?;", DIGITS);
        each("5555", SIGNS + "?;", "");
        each("0", SIGNS + "?;", DIGITS);
        each("s<s", "|&+-*/%?;", "");
        each("s=5", "|&+-*/%?;", DIGITS);
        each("s?s", SIGNS + ";", "");
        each("s?s>s", "|&+-*/%;", "");
        each("s?s;s", SIGNS + "?;", "");
    }

    private static void bytesBehindABracket() {
        t.says("FAULT: the place (from 0) of the first byte with which no TEXT goes on; the length, if it ends too early.");
        each("(", AHEAD + NAMES + DIGITS, "");
        each("(s", SIGNS, ")");
        each("(s)", SIGNS + "?;", "");
        each("((s)", SIGNS, ")");
        each("(s<s", "|&+-*/%", ")");
        each("(s<s)", SIGNS + "?;", "");
        each("s<(s<s)", "|&+-*/%?;", "");
        each("s?(s)", SIGNS + ";", "");
        each("(12", SIGNS + DIGITS, ")");
    }

    private static void bytesBehindASign() {
        t.says("FAULT: the place (from 0) of the first byte with which no TEXT goes on; the length, if it ends too early.");
        for (char sign : SIGNS.toCharArray()) {
            each("s" + sign, AHEAD, NAMES + DIGITS);
        }
        each("!", AHEAD, NAMES + DIGITS);
        each("-", AHEAD, NAMES + DIGITS);
        each("!!!!!", AHEAD, NAMES + DIGITS);
        each("!!!!!!", "", NAMES + DIGITS);
        each("s+!!!!!!", "", NAMES + DIGITS);
    }

    /** The i-th of all the ways in which so many of ( ! - can stand. */
    private static String ahead(int i, int many) {
        StringBuilder text = new StringBuilder();
        int rest = i;
        for (int k = 0; k < many; k++) {
            text.append(AHEAD.charAt(rest % 3));
            rest /= 3;
        }
        return text.toString();
    }

    private static String closed(String ahead) {
        return ")".repeat((int) ahead.chars().filter(c -> c == '(').count());
    }

    private static void sixOpen() {
        t.says("At most 6 of ( ! - ahead of an O are open at once.");
        for (int many = 0; many <= 6; many++) {
            for (int i = 0; i < Math.pow(3, many); i++) {
                String open = ahead(i, many);
                good(open + "s" + closed(open));
            }
        }
    }

    private static void sevenOpen() {
        t.says("At most 6 of ( ! - ahead of an O are open at once.");
        for (int i = 0; i < Math.pow(3, 7); i++) {
            String open = ahead(i, 7);
            fault(open + "s" + closed(open), 6);
        }
        fault("1?!!!!!!!s", 8);
        fault("1;(((((((s", 8);
        fault("(((((((", 6);
    }

    private static void openAtOnce() {
        t.says("At most 6 of ( ! - ahead of an O are open at once.");
        good("!!!!!!s+!!!!!!s+------s");
        good("((((((s))))))*((((((s))))))");
        good("(s)+(s)+(s)+(s)+(s)+(s)+(s)+(s)");
        good("!s&!s&!s&!s&!s&!s&!s&!s");
        good("-s-s-s-s-s-s-s-s-s");
        good("((((((s)+(s)))-(s-(s)))))");
        good("(((((-s-s-s-s+-s)))))");
        good("!(!(!(s))+!(!s))");
        fault("((((((s)+((s", 10);
        fault("(((((!s+!!s", 9);
        fault("(((((!s+(s)+!(s", 13);
        // a sign ahead of a bracket is open until the bracket is closed
        fault("!(!(!(s+-s", 8);
        fault("-----(-", 6);
        fault("-----(s+(", 8);
        good("-----(s)+(((((s)))))");
        good("-----(s)+-----(s)");
        good("((((((s))))))?((((((s))))));((((((s))))))");
    }

    private static void faultPlaces() {
        t.says("FAULT: the place (from 0) of the first byte with which no TEXT goes on");
        for (int place = 0; place <= 119; place++) {
            String ahead = "s+".repeat(place / 2) + (place % 2 == 0 ? "" : "s");
            fault(ahead + ")", place);
            fault(ahead + ")" + "s".repeat(119 - place), place);
        }
        fault("x;x", 0);
        fault("s+)+)", 2);
    }

    private static void faultAtTheLength() {
        t.says("the length, if it ends too early");
        for (int length = 2; length <= 120; length += 2) {
            fault("s+".repeat(length / 2), length);
        }
        fault("(s", 2);
        fault("((s)", 4);
        fault("-", 1);
        fault("s?", 2);
        fault("s;", 2);
        fault("(" + "s+".repeat(59) + "s", 120);
    }

    private static void tighterFirst() {
        t.says("A = B { & B }. B = S, or S < S, S = S, S > S. S = P { + P, - P }. P = O { * O, / O, % O }.");
        gives("2+3*4", 14);
        gives("2*3+4", 10);
        gives("20-8/4", 18);
        gives("20-9%4", 19);
        gives("(2+3)*4", 20);
        gives("1+1<3", 1);
        gives("3<1+1", 0);
        gives("1+(1<3)", 2);
        gives("5&0<1", 1);
        gives("(5&0)<1", 1);
        gives("0<1&0", 0);
        gives("0<(1&0)", 0);
        gives("1|0&0", 1);
        gives("(1|0)&0", 0);
        gives("0&0|1", 1);
        gives("0&(0|1)", 0);
        gives("2=2&3=3", 1);
        gives("0|0<1", 1);
        gives("-2+9", 7);
        gives("-(2+9)+20", 9);
        gives("!1+5", 5);
        gives("!(1+5)", 0);
        gives("!0*7", 7);
        gives("-2*-3", 6);
        gives("9--2", 11);
        gives("!-1", 0);
        gives("-!0+3", 2);
    }

    private static void fromTheLeft() {
        t.says("S = P { + P, - P }. P = O { * O, / O, % O }.");
        gives("20-5-3", 12);
        gives("20-5+3", 18);
        gives("20-(5-3)", 18);
        gives("80/4/5", 4);
        gives("80/4*4", 80);
        gives("40/4*5", 50);
        gives("4*5/3", 6);
        gives("4*(5/3)", 4);
        gives("50%30%7", 6);
        gives("50%(30%7)", 0);
        gives("7%4*5", 15);
        gives("0-1-2+9", 6);
    }

    private static void wraps() {
        t.says("Ints that wrap");
        String least = "-2048*1024*1024";
        is("(" + least + ")-1", "-1-(" + least + ")");
        is("-(" + least + ")", least);
        is("(" + least + ")*-1", least);
        is("(" + least + ")*2", "0");
        is("(" + least + ")+(" + least + ")", "0");
        is("2048*1024*1024", least);
        is("4096*1024*1024", "0");
        is("4096*1024*1024+7", "7");
        // 999700029999 less 233 times 2 to the 32nd
        is("9999*9999*9999", "-(1027*1000*1000+349*1000+969)");
        gives(least + "-1>0", 1);
        gives(least + "<0", 1);
        gives("2047*1024*1024+1024*1024-1>0", 1);
        gives("2047*1024*1024+1024*1024<0", 1);
    }

    private static void towardZero() {
        t.says("/ and % toward 0");
        is("7/2", "3");
        is("-7/2", "-3");
        is("7/-2", "-3");
        is("-7/-2", "3");
        is("1/2", "0");
        is("-1/2", "0");
        is("7%2", "1");
        is("-7%2", "-1");
        is("7%-2", "1");
        is("-7%-2", "-1");
        is("-6%2", "0");
        is("(-2048*1024*1024)/-1", "-2048*1024*1024");
        is("(-2048*1024*1024)%-1", "0");
    }

    private static void byZero() {
        t.says("by 0 they give 0");
        is("7/0", "0");
        is("7%0", "0");
        is("-7/0", "0");
        is("-7%0", "0");
        is("0/0", "0");
        is("0%0", "0");
        is("7/(s-3)", "0");
        is("7%(s-3)", "0");
        is("7/0+9", "9");
        is("9/0*5+3%0+2", "2");
    }

    private static void oneOrZero() {
        t.says("| & < = > ! give 1, 0");
        String[] texts = {"0|0", "0|7", "7|0", "7|-7", "-1|0", "0&0", "0&7", "7&0", "7&-7", "-1&2", "6<7", "7<7", "8<7", "-8<7", "6=7", "7=7",
            "8=7", "-7=7", "6>7", "7>7", "8>7", "-7>-8", "!0", "!1", "!7", "!-1", "!!7", "!!0"};
        int[] due = {0, 1, 1, 1, 1, 0, 0, 0, 1, 1, 1, 0, 0, 1, 0, 1,
            0, 0, 0, 0, 1, 1, 1, 0, 0, 0, 1, 0};
        for (int i = 0; i < texts.length; i++) {
            is("(" + texts[i] + ")", "" + due[i]);
            is("(" + texts[i] + ")*2-1", "" + (due[i] * 2 - 1));
        }
    }

    private static void whichLineCounts() {
        t.says("The first LINE without a first E, or whose first E is not 0, counts; none: 0.");
        gives("5", 5);
        gives("5;6", 5);
        gives("0;6", 0);
        gives("0?5", 0);
        gives("1?5", 5);
        gives("-1?5", 5);
        gives("9?5", 5);
        gives("0?5;6", 6);
        gives("0?5;0?6", 0);
        gives("0?5;1?6;7", 6);
        gives("0?5;0?6;7", 7);
        gives("0?5;0?6;7;8", 7);
        gives("0?5;7;1?8", 7);
        gives("1?0;7", 0);
        gives("1?-5;7", 0);
        gives("7/0?5;6", 6);
        gives("0?9;".repeat(29) + "98", 98);
        gives("0?1;".repeat(28) + "1?7;8", 7);
    }

    private static void names() {
        t.says("NAMES: s SIZE, w 1 if WHAT is what the child LIKES, else 0, d DAY, a AGE, n how many days late it is eaten, k SEEN.");
        DoorsForThree x = new DoorsForThree();
        Due.doors(x, 24, 7, 9, 1, 0, 1);
        Due.children(x, 18, 7, 1, 0);
        String[] texts = {"s", "w", "d", "a", "n", "k", "s*9+w*9+(d=24)*5"};
        // the last DOOR for the first child, 24 days late; the first for the second, at once
        int[] far = {9, 1, 24, 18, 24, 0, 95};
        int[] near = {1, 1, 1, 1, 0, 0, 18};
        int[] strange = {9, 0, 24, 1, 3, 0, 86};
        for (int i = 0; i < texts.length; i++) {
            Due.law(x, texts[i]);
            t.edge(texts[i] + " of the greatest", x.worth(0, 24), far[i]);
            t.edge(texts[i] + " of the least", x.worth(1, 100), near[i]);
            t.edge(texts[i] + " of what it does not like", x.worth(1, 3), strange[i]);
        }
        Due.law(x, "k*7");
        t.edge("SEEN 0", x.worth(0, 0), 0);
        x.mend(0, 8, 1);
        t.edge("SEEN 1", x.worth(0, 0), 7);
    }

    private static void heldWithin() {
        t.says("It gives what a DOOR is WORTH to a child (held within 0 .. 99).");
        gives("0-1", 0);
        gives("0", 0);
        gives("1", 1);
        gives("98", 98);
        gives("99", 99);
        gives("100", 99);
        gives("101", 99);
        gives("9999", 99);
        gives("-9999", 0);
        gives("-2048*1024*1024", 0);
        gives("-2048*1024*1024-1", 99);
        gives("1?100;5", 99);
        gives("1?0-1;5", 0);
        DoorsForThree x = new DoorsForThree();
        Due.doors(x, 1, 0, 1, 2, 0, 1);
        x.child(9, 7);
        Due.law(x, "100");
        t.edge("each is held, not all", x.all(0), 198);
        Due.law(x, "d*2-3");
        t.edge("-1 is 0, and 1", x.all(0), 1);
    }

    private static void withoutAText() {
        t.says("Without a text: 3 s and 4 w, less SPOILS times n; 0 at least.");
        DoorsForThree x = new DoorsForThree();
        Due.doors(x, 1, 0, 1, 1, 7, 9);
        Due.children(x, 9, 0, 9, 7);
        t.edge("the least, liked", x.worth(0, 0), 7);
        t.edge("the least, not liked", x.worth(1, 0), 3);
        t.edge("the greatest, liked", x.worth(1, 100), 31);
        t.edge("the greatest, not liked", x.worth(0, 100), 27);
        t.edge("24 days late", x.worth(1, 124), 7);
        t.edge("6 days late", x.worth(0, 6), 1);
        t.edge("7 days late", x.worth(0, 7), 0);
        t.edge("8 days late", x.worth(0, 8), 0);
        x.mend(0, 8, 1);
        t.edge("SEEN does not matter", x.worth(0, 0), 7);
        x.mend(0, 9, 0);
        t.edge("SPOILS 0: 24 days late", x.worth(1, 124), 31);
        x.mend(0, 9, 9);
        t.edge("SPOILS 9: 3 days late", x.worth(1, 103), 4);
        t.edge("SPOILS 9: 4 days late", x.worth(1, 104), 0);
    }

    private static void worthNumbers() {
        t.says("What a DOOR is WORTH to a child, n (0 .. 24) days late (dn: 100 times the DOOR, and n). BAD.");
        DoorsForThree x = new DoorsForThree();
        t.edge("nobody, nothing", x.worth(0, 0), -1);
        x.child(9, 0);
        t.edge("no DOOR", x.worth(0, 0), -1);
        for (int i = 0; i < 12; i++) {
            x.door(1 + i, 7);
        }
        Due.law(x, "d*2+n");
        for (int door = 0; door < 12; door++) {
            t.edge("DOOR " + door + " at once", x.worth(0, 100 * door), 2 * door + 2);
            t.edge("DOOR " + door + ", 24 days late", x.worth(0, 100 * door + 24), 2 * door + 26);
            t.edge("DOOR " + door + ", 25 days late", x.worth(0, 100 * door + 25), -1);
            t.edge("DOOR " + door + ", 99 days late", x.worth(0, 100 * door + 99), -1);
        }
        int[] beyond = {1200, 1224, -1, -100, -76, MIN, MAX};
        for (int dn : beyond) {
            t.edge("worth(0, " + dn + ")", x.worth(0, dn), -1);
        }
        int[] children = {-1, 1, MIN, MAX};
        for (int child : children) {
            t.edge("worth(" + child + ", 0)", x.worth(child, 0), -1);
        }
        Due.children(x, 9, 0, 9, 0, 9, 0, 9, 0);
        t.edge("child 4", x.worth(4, 0), 2);
        t.edge("child 5", x.worth(5, 0), -1);
    }
}
