import java.util.ArrayList;
import java.util.List;
import java.util.Random;

/** The same calls, drawn by fixed seeds, to DoorsForThree and to PlainModel: the same answers. */
public final class RandomRunsTest {
    /** An object is used for 512 calls; the longest row of calls that belong together feeds a text and makes it the law. */
    private static final int RUNS = 400, CALLS = 512, TOGETHER = 122;
    private static final int[] ODD = {Integer.MIN_VALUE, -1000, -3, -2, -1, 5, 6, 13, 25, 61, 121, 999, Integer.MAX_VALUE};

    private final Random random;
    private final DoorsForThree real = new DoorsForThree();
    private final PlainModel model = new PlainModel();
    private final List<String> said = new ArrayList<>();
    private boolean same = true;

    private RandomRunsTest(long seed) {
        random = new Random(seed);
    }

    /** Mostly a number within the bounds, now and then one beyond or far away. */
    private int from(int least, int most) {
        int dice = random.nextInt(40);
        if (dice == 0) return ODD[random.nextInt(ODD.length)];
        if (dice == 1) return most + 1;
        if (dice == 2) return least - 1;
        return most < least ? least : least + random.nextInt(most - least + 1);
    }

    private void check(String call, long got, long want) {
        said.add(call + " -> " + got);
        if (got == want) return;
        same = false;
        System.out.println(String.join("\n", said.subList(Math.max(0, said.size() - 40), said.size())));
        System.out.println("   the model says " + want);
    }

    private int rd() { return 100 * from(0, 4) + from(0, model.doors.size() - 1); }

    private int rc() { return 10 * from(0, 4) + from(0, model.children.size() - 1); }

    private void law() {
        String text = random.nextInt(6) == 0 ? noise() : text();
        if (random.nextInt(4) == 0 && text.length() > 0) {
            int at = random.nextInt(text.length());
            text = text.substring(0, at) + "swdank0123456789+-*/%<=>&|!?;()x ".charAt(random.nextInt(33)) + text.substring(at);
        }
        for (char c : text.toCharArray()) check("feed(" + c + ")", real.feed(c), model.feed(c));
        check("law()", real.law(), model.law());
    }

    private String noise() {
        StringBuilder text = new StringBuilder();
        int length = random.nextInt(12);
        for (int i = 0; i < length; i++) text.append("swdank09+-*<=&|!?;()".charAt(random.nextInt(20)));
        return text.toString();
    }

    private String text() {
        StringBuilder text = new StringBuilder();
        for (int lines = random.nextInt(3); lines >= 0; lines--) {
            if (random.nextInt(3) > 0) text.append(expression(2)).append('?');
            text.append(expression(3));
            if (lines > 0) text.append(';');
        }
        return text.length() > 119 ? "s*4+w*a-n" : text.toString();
    }

    private String expression(int depth) {
        int kind = random.nextInt(9);
        if (depth == 0 || kind < 2) return "" + "swdank".charAt(random.nextInt(6));
        if (kind == 2) return "" + random.nextInt(random.nextBoolean() ? 10 : 10000);
        if (kind == 3) return "(" + expression(depth - 1) + ")";
        if (kind == 4) return "!-".charAt(random.nextInt(2)) + expression(depth - 1);
        return expression(depth - 1) + "+-*/%<=>&|+-*".charAt(random.nextInt(13)) + expression(depth - 1);
    }

    private void rowOf(int shelf, int... values) {
        check("row", real.row(shelf, 0, values.length), model.row(shelf, 0, values.length));
        for (int i = 0; i < values.length; i++) check("put", real.put(shelf, i, values[i]), model.put(shelf, i, values[i]));
    }

    private void someRow() {
        int shelf = random.nextInt(6);
        int[] values = new int[random.nextInt(9)];
        int rule = random.nextInt(5);
        int kind = random.nextInt(3);
        for (int i = 0; i < values.length; i++) {
            if (kind == 0) values[i] = from(0, 11);
            else if (kind == 1) values[i] = random.nextInt(3) == 0 ? -1 : model.whose(100 * rule + i);
            else values[i] = i % 3 == 0 ? from(1, 24) : i % 3 == 1 ? from(0, 7) : from(1, 9);
        }
        rowOf(shelf, values);
    }

    private void callDoors() {
        int a, b, c;
        switch (random.nextInt(8)) {
            case 0: a = from(1, 24); b = from(0, 7);
                if (random.nextInt(3) == 0) check("door(" + a + "," + b + ")", real.door(a, b), model.door(a, b)); break;
            case 1: a = from(0, 5); b = from(0, 4); c = from(1, 12);
                if (random.nextInt(3) == 0) check("doors(" + a + "," + b + "," + c + ")", real.doors(a, b, c), model.doors(a, b, c)); break;
            case 2: a = from(1, 18); b = from(0, 7);
                if (random.nextInt(3) == 0) check("child(" + a + "," + b + ")", real.child(a, b), model.child(a, b)); break;
            case 3: case 4: a = from(0, 5); b = from(0, 9); c = from(0, random.nextBoolean() ? 9 : 24);
                check("mend(" + a + "," + b + "," + c + ")", real.mend(a, b, c), model.mend(a, b, c)); break;
            case 5: a = from(0, 5); b = from(0, 10);
                check("of(" + a + "," + b + ")", real.of(a, b), model.of(a, b)); break;
            case 6: if (random.nextInt(4) == 0) law(); break;
            default: a = from(0, model.children.size() - 1); b = 100 * from(0, model.doors.size() - 1) + from(0, 24);
                check("worth(" + a + "," + b + ")", real.worth(a, b), model.worth(a, b)); break;
        }
    }

    private void callGivings() {
        int a, b;
        switch (random.nextInt(9)) {
            case 0: a = rd(); check("whose(" + a + ")", real.whose(a), model.whose(a)); break;
            case 1: a = rc(); check("all(" + a + ")", real.all(a), model.all(a)); break;
            case 2: a = from(0, 4); b = from(0, 2); check("giving(" + a + "," + b + ")", real.giving(a, b), model.giving(a, b)); break;
            case 3: a = from(0, 1); check("bestRule(" + a + ")", real.bestRule(a), model.bestRule(a)); break;
            case 4: a = from(-2, model.doors.size() - 1); if (random.nextInt(4) == 0) check("fairest(" + a + ")", real.fairest(a), model.fairest(a)); break;
            case 5: if (random.nextInt(4) == 0) check("envyFree()", real.envyFree(), model.envyFree()); break;
            case 6: a = from(0, 4); check("swap(" + a + ")", real.swap(a), model.swap(a)); break;
            case 7: a = from(0, 4); b = from(0, 1); check("swaps(" + a + "," + b + ")", real.swaps(a, b), model.swaps(a, b)); break;
            default: a = from(0, 4); b = from(-1, model.children.size() - 1); check("big(" + a + "," + b + ")", real.big(a, b), model.big(a, b)); break;
        }
    }

    private void callSigns() {
        int a, b, c, d;
        switch (random.nextInt(11)) {
            case 0: a = rc(); b = from(0, 2); check("away(" + a + "," + b + ")", real.away(a, b), model.away(a, b)); break;
            case 1: a = rc(); b = from(0, 9); check("gather(" + a + "," + b + ")", real.gather(a, b), model.gather(a, b)); break;
            case 2: a = rc(); b = from(0, 1); check("waits(" + a + "," + b + ")", real.waits(a, b), model.waits(a, b)); break;
            case 3: a = from(0, 5); b = from(1, 24); c = from(0, 4); d = from(0, 2);
                check("atFive(" + a + "," + b + "," + c + "," + d + ")", real.atFive(a, b, c, d), model.atFive(a, b, c, d)); break;
            case 4: a = from(0, 5); b = from(1, 24); c = from(0, 4); d = from(0, 1);
                check("guard(" + a + "," + b + "," + c + "," + d + ")", real.guard(a, b, c, d), model.guard(a, b, c, d)); break;
            case 5: a = from(0, 5); b = from(0, 4); check("judge(" + a + "," + b + ")", real.judge(a, b), model.judge(a, b)); break;
            case 6: a = from(0, 5); check("byWhat(" + a + ")", real.byWhat(a), model.byWhat(a)); break;
            case 7: a = from(0, 4); b = from(1, 9); check("second(" + a + "," + b + ")", real.second(a, b), model.second(a, b)); break;
            case 8: a = from(0, 4); b = from(0, 1); check("pairs(" + a + "," + b + ")", real.pairs(a, b), model.pairs(a, b)); break;
            case 9: someRow(); break;
            default: a = random.nextInt(); b = from(1, 50); c = from(-1, model.children.size() - 1);
                check("drawn(" + a + "," + b + "," + c + ")", real.drawn(a, b, c), model.drawn(a, b, c)); break;
        }
    }

    private void callDeeds() {
        int a, b;
        switch (random.nextInt(9)) {
            case 0: check("day()", real.day(), model.day()); break;
            case 1: a = from(0, model.children.size() - 1); b = from(0, model.doors.size() - 1);
                check("open(" + a + "," + b + ")", real.open(a, b), model.open(a, b)); break;
            case 2: check("forgotten()", real.forgotten(), model.forgotten()); break;
            case 3: a = from(0, 3); check("led(" + a + ")", real.led(a), model.led(a)); break;
            case 4: check("image()", real.image(), model.image()); break;
            case 5: check("back()", real.back(), model.back()); break;
            case 6: a = from(0, 5); check("count(" + a + ")", real.count(a), model.count(a)); break;
            case 7: check("undo()", real.undo(), model.undo()); break;
            default: check("redo()", real.redo(), model.redo()); break;
        }
    }

    private void callShelves() {
        int a, b, c, d, e;
        long v;
        switch (random.nextInt(10)) {
            case 0: a = from(0, 7); check("body(" + a + ")", real.body(a), model.body(a)); break;
            case 1: case 2: a = from(0, model.bodies.size() - 1); b = from(0, 3); c = random.nextBoolean() ? from(-9, 9) : random.nextInt();
                check("act(" + a + "," + b + "," + c + ")", real.act(a, b, c), model.act(a, b, c));
                for (int i = -1; i <= model.trace.size(); i++) check("trace(" + i + ")", real.trace(i), model.trace(i));
                check("count(5)", real.count(5), model.count(5)); break;
            case 3: a = from(0, 5); b = from(-1, model.bodies.size() - 1); check("keep(" + a + "," + b + ")", real.keep(a, b), model.keep(a, b)); break;
            case 4: a = from(0, 5); b = from(0, 4); c = from(0, random.nextBoolean() ? 60 : 5);
                check("row(" + a + "," + b + "," + c + ")", real.row(a, b, c), model.row(a, b, c)); break;
            case 5: case 6: a = from(0, 5); b = from(0, 5); v = random.nextBoolean() ? random.nextLong() : from(-2, 12);
                check("put(" + a + "," + b + "," + v + ")", real.put(a, b, v), model.put(a, b, v)); break;
            case 7: a = from(0, 5); b = from(0, 5); check("element(" + a + "," + b + ")", real.element(a, b), model.element(a, b)); break;
            case 8: a = from(0, 5); b = from(0, 4); c = random.nextBoolean() ? a : from(0, 5); d = from(0, 4); e = from(0, 3);
                check("shift(" + a + "," + b + "," + c + "," + d + "," + e + ")", real.shift(a, b, c, d, e), model.shift(a, b, c, d, e)); break;
            default: a = from(0, 5); b = from(0, 7); check("taken(" + a + "," + b + ")", real.taken(a, b), model.taken(a, b)); break;
        }
    }

    private boolean run() {
        int kinds = 1 + random.nextInt(5);
        while (same && said.size() <= CALLS - TOGETHER) {
            int kind = random.nextInt(5 + kinds);
            if (kind == 0) callDeeds();
            else if (kind == 1) callShelves();
            else if (kind == 2) callSigns();
            else if (kind == 3) callGivings();
            else if (kind == 4) callDoors();
            else if (kinds == 1) callShelves();
            else if (kinds == 2) callDeeds();
            else if (random.nextInt(3) == 0) callDoors();
            else if (random.nextBoolean()) callGivings();
            else callSigns();
        }
        return same;
    }

    public static void main(String[] args) {
        int runs = args.length > 1 ? Integer.parseInt(args[1]) : RUNS;
        for (int seed = 1; seed <= runs; seed++) {
            if (!new RandomRunsTest(seed).run()) {
                System.out.println("run with seed " + seed + " differs");
                System.exit(1);
            }
        }
        System.out.println(runs + " runs answer as the plain model does");
    }
}
