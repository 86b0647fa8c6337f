import java.util.Arrays;

/**
 * Twenty four doors for three: a calendar of doors, the children who share it, and what each
 * door is worth to whom. ../shared/DOC.md tells what each call answers; the words in capitals
 * are the document's.
 */
public final class DoorsForThree {
    public static final int BAD = -1, NOT = -2, FULL = -3, STATE = -5, VOID = -2000000000;

    private static final int NOTHING_THERE = -11, OTHER_KIND = -12, NO_PLACE = -13, BELOW_ZERO = -14;
    private static final int SHELVES = 6;

    private final Calendar calendar;
    private final Changes changes;
    private final Law tape;
    private final Worths worths;
    private final Givings givings;
    private final Fairest search;
    private final Signs signs;
    private final Deeds deeds;
    private final Pictures pictures;
    private final Shelf[] shelves;

    public DoorsForThree() {
        calendar = new Calendar();
        changes = new Changes();
        tape = new Law();
        worths = new Worths(calendar, tape);
        givings = new Givings(calendar, worths);
        search = new Fairest(calendar, givings);
        signs = new Signs(calendar, givings);
        deeds = new Deeds(calendar);
        pictures = new Pictures();
        shelves = new Shelf[SHELVES];
        for (int i = 0; i < shelves.length; i++) {
            shelves[i] = new Shelf();
        }
    }

    // ---- doors, children

    public int door(int day, int what) {
        if (!calendar.fits(Calendar.DAY, day) || !calendar.fits(Calendar.WHAT, what)) {
            return BAD;
        }
        return calendar.addDoor(day, what, 1) ? calendar.doors - 1 : FULL;
    }

    public int doors(int shelf, int i, int n) {
        if (!isShelf(shelf) || n < 1 || n > Calendar.MOST_DOORS) {
            return BAD;
        }
        Shelf row = shelves[shelf];
        if (row.holds == Shelf.NOTHING) {
            return 0;
        }
        if (row.refusesBytes() != 0) {
            return OTHER_KIND;
        }
        int came = 0;
        while (came < n && doorComes(row, i, came)) {
            came++;
        }
        return came;
    }

    public int child(int age, int likes) {
        if (!calendar.fits(Calendar.AGE, age) || !calendar.fits(Calendar.LIKES, likes)) {
            return BAD;
        }
        return calendar.addChild(age, likes) ? calendar.children - 1 : FULL;
    }

    public int mend(int number, int what, int v) {
        if (!calendar.has(what, number) || !calendar.fits(what, v)) {
            return BAD;
        }
        int was = calendar.get(what, number);
        if (was != v) {
            changes.keepChange(number, what, was, v);
            calendar.set(what, number, v);
        }
        return was;
    }

    public int of(int number, int what) {
        if (what == 10) {
            return calendar.hasDoor(number) ? deeds.opener(number) : BAD;
        }
        return calendar.has(what, number) ? calendar.get(what, number) : BAD;
    }

    public int feed(int letter) {
        if (letter < 0 || letter > 255) {
            return BAD;
        }
        return tape.takeLetter(letter) ? tape.letters : FULL;
    }

    public int law() {
        return tape.becomeLaw();
    }

    public int worth(int child, int dn) {
        if (dn < 0) {
            return BAD;
        }
        int door = dn / 100;
        int late = dn % 100;
        if (!calendar.hasChild(child) || !calendar.hasDoor(door) || late > Calendar.LAST_DAY) {
            return BAD;
        }
        return worths.worthLate(child, door, calendar.get(Calendar.SIZE, door), late);
    }

    // ---- givings

    public int whose(int rd) {
        if (rd < 0 || !isRule(rd / 100) || !calendar.hasDoor(rd % 100)) {
            return BAD;
        }
        return fresh().owner(rd / 100, rd % 100);
    }

    public int all(int rc) {
        return isRuleAndChild(rc) ? fresh().sumOf(rc / 10, rc % 10) : BAD;
    }

    public int giving(int rule, int what) {
        if (!isRule(rule)) {
            return BAD;
        }
        switch (what) {
            case 0: return fresh().unfairBy(rule);
            case 1: return fresh().togetherBy(rule);
            case 2: return fresh().envyBy(rule);
            default: return BAD;
        }
    }

    public int bestRule(int what) {
        if (what != 0 && what != 1) {
            return BAD;
        }
        int best = fresh().leastUnfairRule();
        return what == 0 ? best : givings.unfairBy(best);
    }

    public int fairest(int door) {
        if (door < -2 || door >= calendar.doors) {
            return BAD;
        }
        if (search.isTooWide()) {
            return STATE;
        }
        if (calendar.children == 0) {
            return NOT;
        }
        givings.freshen();
        search.findOut();
        if (door == -1) {
            return search.unfair;
        }
        return door == -2 ? search.together : search.owner(door);
    }

    public int envyFree() {
        if (search.isTooWide()) {
            return STATE;
        }
        if (calendar.children == 0) {
            return NOT;
        }
        givings.freshen();
        search.findOut();
        return search.withoutEnvy;
    }

    public int swap(int rule) {
        return isRule(rule) ? fresh().firstSwapBy(rule) : BAD;
    }

    public int swaps(int rule, int what) {
        if (!isRule(rule) || what != 0 && what != 1) {
            return BAD;
        }
        int made = fresh().swapAll(rule);
        return what == 0 ? made : givings.triedUnfair();
    }

    public int big(int rule, int child) {
        if (!isRule(rule) || child != -1 && !calendar.hasChild(child)) {
            return BAD;
        }
        if (calendar.doors == 0 || calendar.children == 0) {
            return NOT;
        }
        fresh().divideBig(rule);
        return child == -1 ? givings.triedUnfair() : givings.triedSum(child);
    }

    // ---- away, gathering, waiting

    public int away(int rc, int what) {
        if (!isRuleAndChild(rc)) {
            return BAD;
        }
        switch (what) {
            case 0: return calendar.doorsAway(rc % 10);
            case 1: return fresh().neverEaten(rc / 10, rc % 10);
            case 2: return fresh().daysLate(rc / 10, rc % 10);
            default: return BAD;
        }
    }

    public int gather(int rc, int g) {
        if (!isRuleAndChild(rc) || g < 0 || g > Givings.MOST_GATHERED) {
            return BAD;
        }
        fresh().takeMine(rc / 10, rc % 10);
        return g == 0 ? givings.bestGathering(rc % 10) : givings.gathered(rc % 10, g);
    }

    public int waits(int rc, int what) {
        if (!isRuleAndChild(rc) || what != 0 && what != 1) {
            return BAD;
        }
        int last = calendar.holdsOutTill(rc % 10);
        return what == 0 ? last : fresh().ownAfter(rc / 10, rc % 10, last);
    }

    // ---- at five, told, second

    public int atFive(int shelf, int day, int rule, int what) {
        if (!isShelf(shelf) || !calendar.fits(Calendar.DAY, day) || !isRule(rule) || what < 0 || what > 2) {
            return BAD;
        }
        Shelf row = shelves[shelf];
        int refusal = row.refusesBytes();
        if (refusal != 0) {
            return refusal;
        }
        if (what == 0) {
            return Integer.bitCount(signs.earlyOnes(row, day));
        }
        givings.freshen();
        int who = signs.couldHaveBeen(row, day, rule);
        return what == 1 ? who : signs.onlyOne(who);
    }

    public int guard(int shelf, int day, int rule, int what) {
        if (!isShelf(shelf) || !calendar.fits(Calendar.DAY, day) || !isRule(rule) || what != 0 && what != 1) {
            return BAD;
        }
        Shelf row = shelves[shelf];
        int refusal = row.refusesBytes();
        if (refusal != 0) {
            return refusal;
        }
        if (calendar.children == 0) {
            return NOT;
        }
        givings.freshen();
        int who = signs.couldHaveBeen(row, day, rule);
        int guard = signs.bestGuard(who);
        return what == 0 ? guard : signs.leftBy(guard, who);
    }

    public int judge(int shelf, int rule) {
        if (!isShelf(shelf) || !isRule(rule)) {
            return BAD;
        }
        int refusal = shelves[shelf].refusesBytes();
        if (refusal != 0) {
            return refusal;
        }
        givings.freshen();
        return signs.firstNotSo(shelves[shelf], rule);
    }

    public int byWhat(int shelf) {
        if (!isShelf(shelf)) {
            return BAD;
        }
        int refusal = shelves[shelf].refusesBytes();
        if (refusal != 0) {
            return refusal;
        }
        givings.freshen();
        int rules = 0;
        for (int rule = 0; rule < Givings.RULES; rule++) {
            if (signs.firstNotSo(shelves[shelf], rule) == NOT) {
                rules |= 1 << rule;
            }
        }
        return rules;
    }

    public int second(int rule, int s) {
        if (!isRule(rule) || !calendar.fits(Calendar.SIZE, s)) {
            return BAD;
        }
        fresh().giveTwice(rule, s);
        return givings.triedUnfair();
    }

    public int pairs(int rule, int what) {
        if (!isRule(rule) || what != 0 && what != 1) {
            return BAD;
        }
        int pair = fresh().bestPair(rule);
        if (what == 0) {
            return pair;
        }
        return pair == NOT ? 0 : givings.gainOf(rule, pair / 10, pair % 10);
    }

    public int drawn(int seed, int n, int child) {
        if (n < 1 || n > Givings.MOST_DECEMBERS || child != -1 && !calendar.hasChild(child)) {
            return BAD;
        }
        return fresh().drawDecembers(seed, n, child);
    }

    // ---- in deed

    public int day() {
        return deeds.dayPasses() ? deeds.today : STATE;
    }

    public int open(int child, int door) {
        if (!calendar.hasChild(child) || !calendar.hasDoor(door)) {
            return BAD;
        }
        if (deeds.opener(door) != NOT) {
            return STATE;
        }
        int worth = worths.worthLate(child, door, calendar.get(Calendar.SIZE, door), deeds.lateFor(door));
        deeds.openDoor(child, door, worth);
        return worth;
    }

    public int forgotten() {
        return deeds.closedBehind();
    }

    public int led(int what) {
        switch (what) {
            case 0: return deeds.opened;
            case 1: return deeds.early;
            case 2: return deeds.worth;
            case 3: return deeds.today;
            default: return BAD;
        }
    }

    public int image() {
        deeds.keepImage();
        return deeds.opened;
    }

    public int back() {
        return deeds.layBack() ? deeds.opened : STATE;
    }

    public int undo() {
        return changes.takeBack(calendar) ? changes.done : STATE;
    }

    public int redo() {
        return changes.makeAgain(calendar) ? changes.undone : STATE;
    }

    // ---- acts, shelves

    public int body(int kind) {
        if (!pictures.isKind(kind)) {
            return BAD;
        }
        return pictures.addBody(kind) ? pictures.bodies - 1 : FULL;
    }

    public int act(int body, int act, int x) {
        return pictures.run(body, act, x);
    }

    public int trace(int i) {
        return pictures.hasTrace(i) ? pictures.traceAt(i) : BAD;
    }

    public int keep(int shelf, int body) {
        if (!isShelf(shelf) || body != -1 && !pictures.hasBody(body)) {
            return BAD;
        }
        if (body == -1) {
            shelves[shelf].holdNothing();
        } else {
            shelves[shelf].holdBody(body);
        }
        return 1;
    }

    public int row(int shelf, int sort, int n) {
        if (!isShelf(shelf) || sort < 0 || sort >= Shelf.SORTS || n > Shelf.MOST_ELEMENTS) {
            return BAD;
        }
        if (n < 0) {
            return BELOW_ZERO;
        }
        shelves[shelf].holdRow(sort, n);
        return 1;
    }

    public int put(int shelf, int i, long v) {
        if (!isShelf(shelf)) {
            return BAD;
        }
        Shelf row = shelves[shelf];
        int refusal = row.refusesRow();
        if (refusal != 0) {
            return refusal;
        }
        return row.putIn(i, v) ? 1 : NO_PLACE;
    }

    public long element(int shelf, int i) {
        if (!isShelf(shelf)) {
            return Long.MIN_VALUE;
        }
        Shelf row = shelves[shelf];
        return row.refusesRow() == 0 && row.hasPlace(i) ? row.at(i) : Long.MIN_VALUE;
    }

    public int shift(int shelf, int i, int other, int j, int n) {
        if (!isShelf(shelf) || !isShelf(other)) {
            return BAD;
        }
        Shelf from = shelves[shelf];
        Shelf to = shelves[other];
        if (from.holds == Shelf.NOTHING || to.holds == Shelf.NOTHING) {
            return NOTHING_THERE;
        }
        if (from.refusesRow() != 0 || to.refusesRow() != 0 || from.sort != to.sort) {
            return OTHER_KIND;
        }
        if (!from.hasPlaces(i, n) || !to.hasPlaces(j, n)) {
            return NO_PLACE;
        }
        to.takeFrom(from, i, j, n);
        return n;
    }

    public int taken(int shelf, int k) {
        if (!isShelf(shelf) || !pictures.isKind(k)) {
            return BAD;
        }
        Shelf held = shelves[shelf];
        if (held.holds == Shelf.NOTHING) {
            return NOTHING_THERE;
        }
        if (held.holds != Shelf.BODY || !pictures.hasBody(held.body)) {
            return OTHER_KIND;
        }
        int kind = pictures.kindOf(held.body);
        return pictures.isUnder(kind, k) ? kind : OTHER_KIND;
    }

    public int count(int what) {
        switch (what) {
            case 0: return calendar.doors;
            case 1: return calendar.children;
            case 2: return tape.letters;
            case 3: return changes.done;
            case 4: return pictures.bodies;
            case 5: return pictures.ran;
            default: return BAD;
        }
    }

    // ---- what the calls share

    private static boolean isRule(int rule) {
        return rule >= 0 && rule < Givings.RULES;
    }

    private boolean isRuleAndChild(int rc) {
        return rc >= 0 && isRule(rc / 10) && calendar.hasChild(rc % 10);
    }

    private boolean isShelf(int shelf) {
        return shelf >= 0 && shelf < shelves.length;
    }

    private Givings fresh() {
        givings.freshen();
        return givings;
    }

    private boolean doorComes(Shelf row, int from, int three) {
        // from is any int: only a sum that can't wrap is made
        if (from < 0 || from > row.length - 3 * three - 3) {
            return false;
        }
        int place = from + 3 * three;
        int day = (int) row.at(place);
        int what = (int) row.at(place + 1);
        int size = (int) row.at(place + 2);
        return calendar.fits(Calendar.DAY, day) && calendar.fits(Calendar.WHAT, what)
                && calendar.fits(Calendar.SIZE, size) && calendar.addDoor(day, what, size);
    }

    /** The DOORS' and CHILDREN's numbers, each sort in a row of its own by mend()'s what. */
    private static final class Calendar {
        static final int DAY = 0, WHAT = 1, SIZE = 2, AGE = 3, LIKES = 4;
        static final int WAITS = 5, FROM = 6, TILL = 7, SEEN = 8, SPOILS = 9;
        static final int MOST_DOORS = 12, MOST_CHILDREN = 5, LAST_DAY = 24;
        static final int NEVER = -1;

        private static final int[] LEAST = {1, 0, 1, 1, 0, 0, 0, 0, 0, 0};
        private static final int[] MOST = {24, 7, 9, 18, 7, 9, 24, 24, 1, 9};

        private final int[][] numbers;
        private int doors, children;
        /** Rises with all that a GIVING hangs on, so that what was worked out is known to be old. */
        private int version;

        Calendar() {
            numbers = new int[10][MOST_DOORS];
            numbers[SPOILS][0] = 1;
        }

        boolean hasDoor(int number) {
            return number >= 0 && number < doors;
        }

        boolean hasChild(int number) {
            return number >= 0 && number < children;
        }

        boolean has(int what, int number) {
            if (what < DAY || what > SPOILS) {
                return false;
            }
            if (what <= SIZE) {
                return hasDoor(number);
            }
            return what <= TILL ? hasChild(number) : number == 0;
        }

        boolean fits(int what, int v) {
            return what >= DAY && what <= SPOILS && v >= LEAST[what] && v <= MOST[what];
        }

        int get(int what, int number) {
            if (what < DAY || what > SPOILS || number < 0 || number >= MOST_DOORS) {
                return 0;
            }
            return numbers[what][number];
        }

        void set(int what, int number, int v) {
            if (has(what, number)) {
                numbers[what][number] = v;
                version++;
            }
        }

        boolean addDoor(int day, int what, int size) {
            if (doors >= MOST_DOORS) {
                return false;
            }
            doors++;
            set(DAY, doors - 1, day);
            set(WHAT, doors - 1, what);
            set(SIZE, doors - 1, size);
            return true;
        }

        boolean addChild(int age, int likes) {
            if (children >= MOST_CHILDREN) {
                return false;
            }
            children++;
            set(AGE, children - 1, age);
            set(LIKES, children - 1, likes);
            set(WAITS, children - 1, 5);
            return true;
        }

        boolean isAway(int child, int day) {
            int from = get(FROM, child);
            return from != 0 && from <= day && day <= get(TILL, child);
        }

        /** How many days late a child eats a DOOR of its own, or NEVER. */
        int late(int child, int door) {
            int day = get(DAY, door);
            if (!isAway(child, day)) {
                return 0;
            }
            int home = get(TILL, child) + 1;
            return home <= LAST_DAY ? home - day : NEVER;
        }

        int doorsAway(int child) {
            int many = 0;
            for (int door = 0; door < doors; door++) {
                if (isAway(child, get(DAY, door))) {
                    many++;
                }
            }
            return many;
        }

        int holdsOutTill(int child) {
            int unseen = get(SEEN, 0) == 0 ? 2 : 0;
            return Math.min(get(WAITS, child) * 3 + unseen, LAST_DAY);
        }
    }

    /** The latest CHANGES: those done, and right behind them those UNDONE, four numbers each. */
    private static final class Changes {
        private static final int MOST = 40, PARTS = 4;

        private final int[] kept = new int[MOST * PARTS];
        private int done, undone;

        void keepChange(int number, int what, int was, int v) {
            if (done >= MOST) {
                System.arraycopy(kept, PARTS, kept, 0, (MOST - 1) * PARTS);
                done = MOST - 1;
            }
            int at = done * PARTS;
            kept[at] = number;
            kept[at + 1] = what;
            kept[at + 2] = was;
            kept[at + 3] = v;
            done++;
            undone = 0;
        }

        boolean takeBack(Calendar calendar) {
            if (done <= 0) {
                return false;
            }
            done--;
            undone++;
            int at = done * PARTS;
            calendar.set(kept[at + 1], kept[at], kept[at + 2]);
            return true;
        }

        boolean makeAgain(Calendar calendar) {
            if (undone <= 0 || done >= MOST) {
                return false;
            }
            int at = done * PARTS;
            calendar.set(kept[at + 1], kept[at], kept[at + 3]);
            done++;
            undone--;
            return true;
        }
    }

    /**
     * THE TAPE and THE LAW. The text becomes steps for a stack, operands ahead of their sign:
     * a number from 0 on stands for itself, a NAME or a sign for less its letter.
     */
    private static final class Law {
        private static final int MOST_LETTERS = 120, MOST_OPEN = 6, MOST_DIGITS = 4;
        // a text gives at most a step a letter, and one for the end of its last LINE
        private static final int MOST_STEPS = MOST_LETTERS + 1;
        private static final int LINE_ENDS = -';', IF_NOT_ZERO = -'?', NEGATIVE = -'~', NO_SIGN = 0;
        private static final int LOOSEST = 0, COMPARED = 2, TIGHTEST = 4;
        private static final String NAMES = "swdank";

        private final int[] tape = new int[MOST_LETTERS];
        private int letters;
        private int at;
        private final int[] draft = new int[MOST_STEPS];
        private int drafted;
        private final int[] steps = new int[MOST_STEPS];
        private int kept;
        private int version;
        private final int[] stack = new int[MOST_STEPS];
        private int top;

        boolean takeLetter(int letter) {
            if (letters >= MOST_LETTERS) {
                return false;
            }
            tape[letters] = letter;
            letters++;
            return true;
        }

        int becomeLaw() {
            at = 0;
            drafted = 0;
            boolean isText = readLines();
            letters = 0;
            if (!isText) {
                return -100 - at;
            }
            System.arraycopy(draft, 0, steps, 0, drafted);
            kept = drafted;
            version++;
            return 1;
        }

        /** Whether there is a text at all. */
        boolean stands() {
            return kept > 0;
        }

        // The readers below stop with at on the first byte with which no TEXT goes on.

        private boolean readLines() {
            for (int line = 0; line <= letters; line++) {
                if (!readLine()) {
                    return false;
                }
                if (pass(";") == NO_SIGN) {
                    return at == letters;
                }
            }
            return false;
        }

        private boolean readLine() {
            if (!readLevel(LOOSEST, 0)) {
                return false;
            }
            if (pass("?") != NO_SIGN) {
                draftStep(IF_NOT_ZERO);
                if (!readLevel(LOOSEST, 0)) {
                    return false;
                }
            }
            draftStep(LINE_ENDS);
            return true;
        }

        /** What the tighter levels read, with this level's signs between; it may compare but once. */
        private boolean readLevel(int level, int open) {
            if (level > TIGHTEST) {
                return readOperand(open);
            }
            boolean good = readLevel(level + 1, open);
            int most = level == COMPARED ? 1 : letters;
            for (int i = 0; i < most && good; i++) {
                int sign = pass(signsOf(level));
                if (sign == NO_SIGN) {
                    return true;
                }
                good = readLevel(level + 1, open);
                draftStep(-sign);
            }
            return good;
        }

        private static String signsOf(int level) {
            switch (level) {
                case LOOSEST: return "|";
                case 1: return "&";
                case COMPARED: return "<=>";
                case 3: return "+-";
                default: return "*/%";
            }
        }

        private boolean readOperand(int open) {
            int name = pass(NAMES);
            if (name != NO_SIGN) {
                draftStep(-name);
                return true;
            }
            if (isDigitNext()) {
                readNumber();
                return true;
            }
            int ahead = open < MOST_OPEN ? pass("(!-") : NO_SIGN;
            if (ahead == NO_SIGN) {
                return false;
            }
            if (ahead == '(') {
                return readLevel(LOOSEST, open + 1) && pass(")") != NO_SIGN;
            }
            boolean good = readOperand(open + 1);
            draftStep(ahead == '!' ? -'!' : NEGATIVE);
            return good;
        }

        private void readNumber() {
            int number = 0;
            for (int digit = 0; digit < MOST_DIGITS && isDigitNext(); digit++) {
                number = number * 10 + tape[at] - '0';
                at++;
            }
            draftStep(number);
        }

        private boolean isDigitNext() {
            return at < letters && tape[at] >= '0' && tape[at] <= '9';
        }

        /** Goes past the next letter if it is one of the signs: that letter. */
        private int pass(String signs) {
            if (at >= letters || signs.indexOf((char) tape[at]) < 0) {
                return NO_SIGN;
            }
            at++;
            return tape[at - 1];
        }

        private void draftStep(int step) {
            if (drafted < draft.length) {
                draft[drafted] = step;
                drafted++;
            }
        }

        /** What the text gives, with what its NAMES stand for in their order. */
        int workOut(int[] named) {
            top = 0;
            boolean passedOver = false;
            for (int i = 0; i < kept; i++) {
                int step = steps[i];
                if (step == LINE_ENDS) {
                    if (!passedOver) {
                        return pop();
                    }
                    passedOver = false;
                } else if (step == IF_NOT_ZERO) {
                    passedOver = pop() == 0;
                } else if (!passedOver) {
                    takeStep(step, named);
                }
            }
            return 0;
        }

        private void takeStep(int step, int[] named) {
            if (step >= 0) {
                push(step);
                return;
            }
            int name = NAMES.indexOf((char) -step);
            if (name >= 0 && name < named.length) {
                push(named[name]);
                return;
            }
            int right = pop();
            if (step == NEGATIVE) {
                push(-right);
            } else if (step == -'!') {
                push(right == 0 ? 1 : 0);
            } else {
                push(joined(-step, pop(), right));
            }
        }

        private static int joined(int sign, int a, int b) {
            switch (sign) {
                case '+': return a + b;
                case '-': return a - b;
                case '*': return a * b;
                case '/': return b == 0 ? 0 : a / b;
                case '%': return b == 0 ? 0 : a % b;
                case '<': return a < b ? 1 : 0;
                case '=': return a == b ? 1 : 0;
                case '>': return a > b ? 1 : 0;
                case '&': return a != 0 && b != 0 ? 1 : 0;
                default: return a != 0 || b != 0 ? 1 : 0;
            }
        }

        private void push(int v) {
            if (top < stack.length) {
                stack[top] = v;
                top++;
            }
        }

        private int pop() {
            if (top <= 0) {
                return 0;
            }
            top--;
            return stack[top];
        }
    }

    /** What each DOOR is WORTH to each child. */
    private static final class Worths {
        private static final int MOST_WORTH = 99;

        private final Calendar calendar;
        private final Law law;
        /** What THE LAW's NAMES stand for, in their order there. */
        private final int[] named = new int[6];

        Worths(Calendar calendar, Law law) {
            this.calendar = calendar;
            this.law = law;
        }

        int version() {
            // both only rise, so their sum stays the same only if both do
            return calendar.version + law.version;
        }

        int worthLate(int child, int door, int size, int late) {
            int liked = calendar.get(Calendar.WHAT, door) == calendar.get(Calendar.LIKES, child) ? 1 : 0;
            if (!law.stands()) {
                return Math.max(0, 3 * size + 4 * liked - calendar.get(Calendar.SPOILS, 0) * late);
            }
            named[0] = size;
            named[1] = liked;
            named[2] = calendar.get(Calendar.DAY, door);
            named[3] = calendar.get(Calendar.AGE, child);
            named[4] = late;
            named[5] = calendar.get(Calendar.SEEN, 0);
            return Math.max(0, Math.min(MOST_WORTH, law.workOut(named)));
        }

        /** As the child EATS it; of SIZE 0 it is WORTH 0. */
        int worthEaten(int child, int door, int size) {
            int late = calendar.late(child, door);
            return late == Calendar.NEVER || size == 0 ? 0 : worthLate(child, door, size, late);
        }
    }

    /** GIVINGS by each RULE, worked out anew only when a number or THE LAW became another. */
    private static final class Givings {
        static final int RULES = 5, MOST_GATHERED = 9, MOST_DECEMBERS = 50;
        private static final int BY_TURNS = 0, BY_AGE = 1, BACKWARDS = 2, BY_WORTH = 3;
        private static final int MOST_SWAPS = 50, PAIR = 20;

        private final Calendar calendar;
        private final Worths worths;
        private int seenVersion = -1;
        /** DOORS by DAY, and CHILDREN from the eldest on. */
        private final int[] byDay = new int[Calendar.MOST_DOORS];
        private final int[] byAge = new int[Calendar.MOST_CHILDREN];
        private final int[][] eaten = new int[Calendar.MOST_CHILDREN][Calendar.MOST_DOORS];
        private final int[][] given = new int[RULES][Calendar.MOST_DOORS];
        private final int[][] sums = new int[RULES][Calendar.MOST_CHILDREN];
        /** One DOOR's WORTH to each child. */
        private final int[] offered = new int[Calendar.MOST_CHILDREN];
        /** A GIVING that is only tried, and what all are WORTH in it. */
        private final int[] tried = new int[Calendar.MOST_DOORS];
        private final int[] triedSums = new int[Calendar.MOST_CHILDREN];
        /** One child's DOORS by DAY. */
        private final int[] mine = new int[Calendar.MOST_DOORS];
        private int mineMany;

        Givings(Calendar calendar, Worths worths) {
            this.calendar = calendar;
            this.worths = worths;
        }

        void freshen() {
            if (seenVersion == worths.version()) {
                return;
            }
            seenVersion = worths.version();
            orderDoors();
            orderChildren();
            for (int child = 0; child < calendar.children; child++) {
                for (int door = 0; door < calendar.doors; door++) {
                    eaten[child][door] = worths.worthEaten(child, door, calendar.get(Calendar.SIZE, door));
                }
            }
            for (int rule = 0; rule < RULES; rule++) {
                giveBy(rule);
            }
        }

        private void orderDoors() {
            for (int door = 0; door < calendar.doors; door++) {
                int place = door;
                int day = calendar.get(Calendar.DAY, door);
                while (place > 0 && calendar.get(Calendar.DAY, byDay[place - 1]) > day) {
                    byDay[place] = byDay[place - 1];
                    place--;
                }
                byDay[place] = door;
            }
        }

        private void orderChildren() {
            for (int child = 0; child < calendar.children; child++) {
                int place = child;
                int age = calendar.get(Calendar.AGE, child);
                while (place > 0 && calendar.get(Calendar.AGE, byAge[place - 1]) < age) {
                    byAge[place] = byAge[place - 1];
                    place--;
                }
                byAge[place] = child;
            }
        }

        private void giveBy(int rule) {
            Arrays.fill(sums[rule], 0);
            for (int turn = 0; turn < calendar.doors; turn++) {
                int door = byDay[turn];
                for (int child = 0; child < calendar.children; child++) {
                    offered[child] = eaten[child][door];
                }
                given[rule][door] = giveOffered(rule, turn, sums[rule]);
            }
        }

        /** The next DOOR goes to a child, and what it is WORTH to all that this one has. */
        private int giveOffered(int rule, int turn, int[] has) {
            int child = chosen(rule, turn, has);
            if (calendar.hasChild(child)) {
                has[child] += offered[child];
            }
            return child;
        }

        private int chosen(int rule, int turn, int[] has) {
            int many = calendar.children;
            if (many <= 0) {
                return NOT;
            }
            switch (rule) {
                case BY_TURNS:
                    return turn % many;
                case BY_AGE:
                    return byAge[turn % many];
                case BACKWARDS:
                    int step = turn % (2 * many);
                    return step < many ? step : 2 * many - 1 - step;
                default:
                    return mostWilling(rule, has);
            }
        }

        private int mostWilling(int rule, int[] has) {
            int best = 0;
            for (int child = 1; child < calendar.children; child++) {
                if (will(rule, child, has) > will(rule, best, has)) {
                    best = child;
                }
            }
            return best;
        }

        private int will(int rule, int child, int[] has) {
            return (rule == BY_WORTH ? offered[child] : 0) - has[child];
        }

        int owner(int rule, int door) {
            return given[rule][door];
        }

        int sumOf(int rule, int child) {
            return sums[rule][child];
        }

        int unfairBy(int rule) {
            return unfairOf(sums[rule]);
        }

        int triedUnfair() {
            return unfairOf(triedSums);
        }

        int triedSum(int child) {
            return triedSums[child];
        }

        private int unfairOf(int[] has) {
            if (calendar.children == 0) {
                return 0;
            }
            int most = has[0];
            int least = has[0];
            for (int child = 1; child < calendar.children; child++) {
                most = Math.max(most, has[child]);
                least = Math.min(least, has[child]);
            }
            return most - least;
        }

        int togetherBy(int rule) {
            int together = 0;
            for (int child = 0; child < calendar.children; child++) {
                together += sums[rule][child];
            }
            return together;
        }

        int envyBy(int rule) {
            int who = 0;
            for (int child = 0; child < calendar.children; child++) {
                for (int other = 0; other < calendar.children; other++) {
                    if (worthTo(child, rule, other) > sums[rule][child]) {
                        who |= 1 << child;
                    }
                }
            }
            return who;
        }

        /** What all of another one would be WORTH to a child. */
        private int worthTo(int child, int rule, int other) {
            int worth = 0;
            for (int door = 0; door < calendar.doors; door++) {
                if (given[rule][door] == other) {
                    worth += eaten[child][door];
                }
            }
            return worth;
        }

        int leastUnfairRule() {
            int best = 0;
            for (int rule = 1; rule < RULES; rule++) {
                int less = unfairBy(best) - unfairBy(rule);
                if (less > 0 || less == 0 && togetherBy(rule) > togetherBy(best)) {
                    best = rule;
                }
            }
            return best;
        }

        int firstSwapBy(int rule) {
            System.arraycopy(given[rule], 0, tried, 0, tried.length);
            return firstSwap();
        }

        private int firstSwap() {
            for (int door = 0; door < calendar.doors; door++) {
                for (int other = door + 1; other < calendar.doors; other++) {
                    if (pleasesBoth(door, other)) {
                        return PAIR * door + other;
                    }
                }
            }
            return NOT;
        }

        private boolean pleasesBoth(int door, int other) {
            int a = tried[door];
            int b = tried[other];
            return a != b && calendar.hasChild(a) && calendar.hasChild(b)
                    && eaten[a][other] > eaten[a][door] && eaten[b][door] > eaten[b][other];
        }

        /** SWAPS, made in the tried GIVING: how many. */
        int swapAll(int rule) {
            int pair = firstSwapBy(rule);
            int made = 0;
            while (made < MOST_SWAPS && pair != NOT) {
                int kept = tried[pair / PAIR];
                tried[pair / PAIR] = tried[pair % PAIR];
                tried[pair % PAIR] = kept;
                made++;
                pair = firstSwap();
            }
            sumTried();
            return made;
        }

        private void sumTried() {
            Arrays.fill(triedSums, 0);
            for (int door = 0; door < calendar.doors; door++) {
                int child = tried[door];
                if (calendar.hasChild(child)) {
                    triedSums[child] += eaten[child][door];
                }
            }
        }

        /** BIG, in the tried GIVING. */
        void divideBig(int rule) {
            int big = 0;
            for (int door = 1; door < calendar.doors; door++) {
                if (calendar.get(Calendar.SIZE, door) > calendar.get(Calendar.SIZE, big)) {
                    big = door;
                }
            }
            System.arraycopy(given[rule], 0, tried, 0, tried.length);
            tried[big] = NOT;
            sumTried();
            int many = calendar.children;
            int part = many > 0 ? calendar.get(Calendar.SIZE, big) / many : 0;
            for (int child = 0; child < many; child++) {
                triedSums[child] += worths.worthEaten(child, big, part);
            }
        }

        int neverEaten(int rule, int child) {
            int many = 0;
            for (int door = 0; door < calendar.doors; door++) {
                if (given[rule][door] == child && calendar.late(child, door) == Calendar.NEVER) {
                    many++;
                }
            }
            return many;
        }

        int daysLate(int rule, int child) {
            int days = 0;
            for (int door = 0; door < calendar.doors; door++) {
                if (given[rule][door] == child) {
                    // a DOOR that is never EATEN is not late
                    days += Math.max(0, calendar.late(child, door));
                }
            }
            return days;
        }

        int ownAfter(int rule, int child, int day) {
            int bits = 0;
            for (int door = 0; door < calendar.doors; door++) {
                if (given[rule][door] == child && calendar.get(Calendar.DAY, door) > day) {
                    bits |= 1 << door;
                }
            }
            return bits;
        }

        void takeMine(int rule, int child) {
            mineMany = 0;
            for (int turn = 0; turn < calendar.doors; turn++) {
                if (given[rule][byDay[turn]] == child) {
                    mine[mineMany] = byDay[turn];
                    mineMany++;
                }
            }
        }

        int gathered(int child, int g) {
            if (g <= 0) {
                return 0;
            }
            int worth = 0;
            for (int i = 0; i < mineMany; i++) {
                int latest = i - i % g + g - 1;
                int eatenOn = latest < mineMany ? calendar.get(Calendar.DAY, mine[latest]) : Calendar.LAST_DAY;
                int late = eatenOn - calendar.get(Calendar.DAY, mine[i]);
                worth += worths.worthLate(child, mine[i], calendar.get(Calendar.SIZE, mine[i]), late);
            }
            return worth;
        }

        int bestGathering(int child) {
            int best = 1;
            int most = gathered(child, 1);
            for (int g = 2; g <= MOST_GATHERED; g++) {
                int worth = gathered(child, g);
                if (worth > most) {
                    best = g;
                    most = worth;
                }
            }
            return best;
        }

        /** SECOND, in the tried sums. */
        void giveTwice(int rule, int size) {
            System.arraycopy(sums[rule], 0, triedSums, 0, triedSums.length);
            for (int turn = 0; turn < calendar.doors; turn++) {
                for (int child = 0; child < calendar.children; child++) {
                    offered[child] = worths.worthEaten(child, byDay[turn], size);
                }
                giveOffered(rule, calendar.doors + turn, triedSums);
            }
        }

        int bestPair(int rule) {
            int best = NOT;
            int most = 0;
            for (int child = 0; child < calendar.children; child++) {
                for (int other = child + 1; other < calendar.children; other++) {
                    int gain = gainOf(rule, child, other);
                    if (gain > most) {
                        best = 10 * child + other;
                        most = gain;
                    }
                }
            }
            return best;
        }

        int gainOf(int rule, int child, int other) {
            return worthTo(child, rule, other) + worthTo(other, rule, child)
                    - sums[rule][child] - sums[rule][other];
        }

        /** DRAWN: how unfair all together (child -1), or how often the child has most. */
        int drawDecembers(int seed, int n, int child) {
            int z = seed;
            int answer = 0;
            for (int december = 0; december < n; december++) {
                z = drawOne(z);
                if (child == -1) {
                    answer += triedUnfair();
                } else if (hasMost(child)) {
                    answer++;
                }
            }
            return answer;
        }

        private int drawOne(int seed) {
            Arrays.fill(triedSums, 0);
            int z = seed;
            for (int turn = 0; turn < calendar.doors && calendar.children > 0; turn++) {
                z = z * 1103515245 + 12345;
                int child = (z >>> 8) % calendar.children;
                triedSums[child] += eaten[child][byDay[turn]];
            }
            return z;
        }

        private boolean hasMost(int child) {
            for (int other = 0; other < calendar.children; other++) {
                if (other != child && triedSums[other] >= triedSums[child]) {
                    return false;
                }
            }
            return true;
        }
    }

    /** All GIVINGS one after the other: the FAIREST, and how many are FREE OF ENVY. */
    private static final class Fairest {
        private static final int MOST_DOORS = 8, MOST_CHILDREN = 3;

        private final Calendar calendar;
        private final Givings givings;
        private int seenVersion = -1;
        private final int[][] eaten = new int[MOST_CHILDREN][MOST_DOORS];
        private final int[] whose = new int[MOST_DOORS];
        private final int[] fairest = new int[MOST_DOORS];
        /** What all of one (second) are WORTH to a child (first): kept from one GIVING to the next. */
        private final int[][] held = new int[MOST_CHILDREN][MOST_CHILDREN];
        private int unfair, together, withoutEnvy;

        Fairest(Calendar calendar, Givings givings) {
            this.calendar = calendar;
            this.givings = givings;
        }

        boolean isTooWide() {
            return calendar.doors > MOST_DOORS || calendar.children > MOST_CHILDREN;
        }

        int owner(int door) {
            return door >= 0 && door < MOST_DOORS ? fairest[door] : NOT;
        }

        /** Asked of fresh GIVINGS, with one to three CHILDREN and at most eight DOORS. */
        void findOut() {
            if (seenVersion == givings.seenVersion || isTooWide()) {
                return;
            }
            seenVersion = givings.seenVersion;
            giveAllToFirst();
            unfair = Integer.MAX_VALUE;
            together = 0;
            withoutEnvy = 0;
            int many = howMany();
            for (int i = 0; i < many; i++) {
                weigh();
                goOn();
            }
        }

        private int howMany() {
            int many = 1;
            for (int door = 0; door < calendar.doors; door++) {
                many *= calendar.children;
            }
            return many;
        }

        private void giveAllToFirst() {
            Arrays.fill(whose, 0);
            for (int child = 0; child < calendar.children; child++) {
                Arrays.fill(held[child], 0);
                for (int door = 0; door < calendar.doors; door++) {
                    eaten[child][door] = givings.eaten[child][door];
                    held[child][0] += eaten[child][door];
                }
            }
        }

        private void weigh() {
            int most = held[0][0];
            int least = most;
            int sum = 0;
            boolean envy = false;
            for (int child = 0; child < calendar.children; child++) {
                int own = held[child][child];
                most = Math.max(most, own);
                least = Math.min(least, own);
                sum += own;
                for (int other = 0; other < calendar.children; other++) {
                    envy |= held[child][other] > own;
                }
            }
            if (!envy) {
                withoutEnvy++;
            }
            if (most - least < unfair || most - least == unfair && sum > together) {
                unfair = most - least;
                together = sum;
                System.arraycopy(whose, 0, fairest, 0, fairest.length);
            }
        }

        /** The next GIVING, the last DOOR fastest: so of like ones the first DOOR by DOOR comes first. */
        private void goOn() {
            for (int door = calendar.doors - 1; door >= 0; door--) {
                boolean last = whose[door] == calendar.children - 1;
                handOver(door, last ? 0 : whose[door] + 1);
                if (!last) {
                    return;
                }
            }
        }

        private void handOver(int door, int to) {
            int from = whose[door];
            whose[door] = to;
            for (int child = 0; child < calendar.children; child++) {
                held[child][from] -= eaten[child][door];
                held[child][to] += eaten[child][door];
            }
        }
    }

    /** What a ROW tells: who was at the DOORS, whose they were. */
    private static final class Signs {
        private static final int NOT_KNOWN = -1;

        private final Calendar calendar;
        private final Givings givings;

        Signs(Calendar calendar, Givings givings) {
            this.calendar = calendar;
            this.givings = givings;
        }

        /** Bits of the EARLY DOORS; bytes that are no DOOR tell nothing. */
        int earlyOnes(Shelf row, int day) {
            int early = 0;
            for (int i = 0; i < row.length; i++) {
                int door = (int) row.at(i);
                if (calendar.hasDoor(door) && calendar.get(Calendar.DAY, door) > day) {
                    early |= 1 << door;
                }
            }
            return early;
        }

        int couldHaveBeen(Shelf row, int day, int rule) {
            int early = earlyOnes(row, day);
            int who = 0;
            for (int child = 0; child < calendar.children; child++) {
                if (!calendar.isAway(child, day) && hasReason(child, early, rule)) {
                    who |= 1 << child;
                }
            }
            return who;
        }

        private boolean hasReason(int child, int early, int rule) {
            for (int door = 0; door < calendar.doors; door++) {
                boolean likes = calendar.get(Calendar.WHAT, door) == calendar.get(Calendar.LIKES, child);
                if ((early >> door & 1) == 1 && (likes || givings.owner(rule, door) == child)) {
                    return true;
                }
            }
            return false;
        }

        int onlyOne(int who) {
            for (int child = 0; child < calendar.children; child++) {
                if (who == 1 << child) {
                    return child;
                }
            }
            return NOT;
        }

        int bestGuard(int who) {
            int best = 0;
            for (int child = 1; child < calendar.children; child++) {
                if (leftBy(child, who) < leftBy(best, who)) {
                    best = child;
                }
            }
            return best;
        }

        int leftBy(int guard, int who) {
            return Integer.bitCount(who & ~(1 << guard));
        }

        int firstNotSo(Shelf row, int rule) {
            for (int i = 0; i < row.length; i++) {
                int told = (int) row.at(i);
                if (!isSo(i, told, rule)) {
                    return i;
                }
            }
            return NOT;
        }

        private boolean isSo(int door, int told, int rule) {
            if (!calendar.hasDoor(door)) {
                return false;
            }
            return told == NOT_KNOWN || calendar.hasChild(told) && givings.owner(rule, door) == told;
        }
    }

    /** IN DEED: who opened what, the DAY, and THE IMAGE of them. */
    private static final class Deeds {
        private final Calendar calendar;
        private final int[] openers = new int[Calendar.MOST_DOORS];
        private int today, opened, early, worth;
        private boolean hasImage;
        private final int[] imageOpeners = new int[Calendar.MOST_DOORS];
        private int imageToday, imageOpened, imageEarly, imageWorth;

        Deeds(Calendar calendar) {
            this.calendar = calendar;
            Arrays.fill(openers, NOT);
        }

        int opener(int door) {
            return door >= 0 && door < openers.length ? openers[door] : NOT;
        }

        boolean dayPasses() {
            if (today >= Calendar.LAST_DAY) {
                return false;
            }
            today++;
            return true;
        }

        int lateFor(int door) {
            return Math.max(0, today - calendar.get(Calendar.DAY, door));
        }

        void openDoor(int child, int door, int worthNow) {
            if (door < 0 || door >= openers.length) {
                return;
            }
            openers[door] = child;
            opened++;
            worth += worthNow;
            if (calendar.get(Calendar.DAY, door) > today) {
                early++;
            }
        }

        int closedBehind() {
            int bits = 0;
            for (int door = 0; door < calendar.doors; door++) {
                if (opener(door) == NOT && calendar.get(Calendar.DAY, door) < today) {
                    bits |= 1 << door;
                }
            }
            return bits;
        }

        void keepImage() {
            // DOORS still to come are nobody's in the image too, as back() wants them
            System.arraycopy(openers, 0, imageOpeners, 0, openers.length);
            imageToday = today;
            imageOpened = opened;
            imageEarly = early;
            imageWorth = worth;
            hasImage = true;
        }

        boolean layBack() {
            if (!hasImage) {
                return false;
            }
            System.arraycopy(imageOpeners, 0, openers, 0, openers.length);
            today = imageToday;
            opened = imageOpened;
            early = imageEarly;
            worth = imageWorth;
            return true;
        }
    }

    /** PICTURES: the BODIES' KINDS, their ACTS, and THE TRACE of the latest one. */
    private static final class Pictures {
        private static final int STAR = 1, BOOT = 2, LAMP = 3, SISTER = 4, EMPTY = 6, DOG = 5, AUNT = 7;
        private static final int MOST_BODIES = 50, MOST_TRACE = 24;
        private static final int[] ABOVE = {-1, 0, 0, 2, 1, 3, 0, 4};

        private final int[] kinds = new int[MOST_BODIES];
        private int bodies;
        private final int[] trace = new int[MOST_TRACE];
        private int ran;

        boolean isKind(int kind) {
            return kind >= 0 && kind < ABOVE.length;
        }

        boolean hasBody(int body) {
            return body >= 0 && body < bodies;
        }

        boolean addBody(int kind) {
            if (bodies >= MOST_BODIES) {
                return false;
            }
            kinds[bodies] = kind;
            bodies++;
            return true;
        }

        int kindOf(int body) {
            return hasBody(body) ? kinds[body] : 0;
        }

        /** Whether a KIND is that one or stands under it. */
        boolean isUnder(int kind, int that) {
            int k = kind;
            for (int i = 0; i < ABOVE.length && isKind(k); i++) {
                if (k == that) {
                    return true;
                }
                k = ABOVE[k];
            }
            return false;
        }

        boolean hasTrace(int i) {
            return i >= 0 && i < ran && i < MOST_TRACE;
        }

        int traceAt(int i) {
            return hasTrace(i) ? trace[i] : 0;
        }

        int run(int body, int act, int x) {
            ran = 0;
            if (!hasBody(body)) {
                return 0;
            }
            switch (act) {
                case 0: return opensOf(body, x);
                case 1: return givesOf(body, x);
                case 2: return waitsOf(body, x);
                case 3: return tellsOf(body, x);
                default: return 0;
            }
        }

        private void begins(int number) {
            if (ran < MOST_TRACE) {
                trace[ran] = number;
            }
            ran++;
        }

        // Each ACT below goes up through the bodies that call super, then down through what they add.

        private int opensOf(int body, int x) {
            boolean star = isUnder(kindOf(body), STAR);
            boolean empty = kindOf(body) == EMPTY;
            if (star) {
                begins(20);
            }
            if (empty) {
                begins(70);
            }
            begins(1);
            int opened = x + body;
            if (star) {
                return opened + 3;
            }
            return empty ? opened * 2 : opened;
        }

        private int givesOf(int body, int x) {
            int kind = kindOf(body);
            boolean lamp = isUnder(kind, LAMP);
            boolean boot = isUnder(kind, BOOT);
            if (kind == AUNT) {
                begins(80);
            }
            if (lamp) {
                begins(41);
            }
            if (boot) {
                begins(30);
            }
            begins(10);
            int given = opensOf(body, lamp ? x + 1 : x) * 2;
            if (kind == AUNT) {
                return given + waitsOf(body, 2);
            }
            return boot ? -given : given;
        }

        private int waitsOf(int body, int x) {
            boolean sister = isUnder(kindOf(body), SISTER);
            boolean lamp = isUnder(kindOf(body), LAMP);
            if (sister) {
                begins(50);
            }
            if (lamp) {
                begins(40);
            }
            begins(11);
            int waited = x ^ body;
            if (sister) {
                return waited - opensOf(body, 2);
            }
            return lamp ? waited * 3 : waited;
        }

        private int tellsOf(int body, int x) {
            int kind = kindOf(body);
            if (kind == DOG) {
                begins(60);
            }
            if (kind == AUNT) {
                begins(81);
            }
            begins(2);
            int given = givesOf(body, x);
            int told = given - waitsOf(body, 1);
            if (kind == DOG) {
                return told ^ 5;
            }
            return kind == AUNT ? told - 1 : told;
        }
    }

    /** A SHELF: nothing, a BODY by its number, or a ROW; its cells are made once and used again. */
    private static final class Shelf {
        static final int NOTHING = 0, BODY = 1, ROW = 2;
        static final int BYTES = 0, SHORTS = 1, INTS = 2, LONGS = 3, SORTS = 5;
        static final int MOST_ELEMENTS = 60;

        private int holds = NOTHING;
        private int body;
        private int sort;
        private int length;
        private final long[] cells = new long[MOST_ELEMENTS];

        void holdNothing() {
            holds = NOTHING;
            length = 0;
        }

        void holdBody(int number) {
            holds = BODY;
            body = number;
            length = 0;
        }

        void holdRow(int sortOfRow, int n) {
            holds = ROW;
            sort = sortOfRow;
            length = Math.max(0, Math.min(n, MOST_ELEMENTS));
            Arrays.fill(cells, 0L);
        }

        int refusesRow() {
            if (holds == NOTHING) {
                return NOTHING_THERE;
            }
            return holds == ROW ? 0 : OTHER_KIND;
        }

        int refusesBytes() {
            int refusal = refusesRow();
            return refusal == 0 && sort != BYTES ? OTHER_KIND : refusal;
        }

        boolean hasPlace(int i) {
            return i >= 0 && i < length;
        }

        boolean hasPlaces(int from, int n) {
            return from >= 0 && n >= 0 && n <= length && from <= length - n;
        }

        long at(int i) {
            return hasPlace(i) ? cells[i] : 0L;
        }

        boolean putIn(int i, long v) {
            if (!hasPlace(i)) {
                return false;
            }
            cells[i] = lowest(v);
            return true;
        }

        private long lowest(long v) {
            switch (sort) {
                case BYTES: return (byte) v;
                case SHORTS: return (short) v;
                case INTS: return (int) v;
                case LONGS: return v;
                default: return v != 0L ? 1L : 0L;
            }
        }

        void takeFrom(Shelf from, int i, int j, int n) {
            if (from.hasPlaces(i, n) && hasPlaces(j, n)) {
                System.arraycopy(from.cells, i, cells, j, n);
            }
        }
    }
}
