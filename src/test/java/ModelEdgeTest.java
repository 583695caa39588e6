import java.util.NoSuchElementException;
import java.util.Random;

/**
 * Runs of some 500 calls with arguments at, just within and far beyond their bounds, each answered by
 * the class and by the plain model of the document, with what trouble(), where() and pole() say then.
 */
final class ModelEdgeTest {
    private static final String[] TEXTS = {
        "own f 2; meet f f f by 1 a",
        "own f 2; meet f f f f by 1 a; meet f f f by 2 b",
        "half e p 3 1; own g 2; meet e p g by 2 b; meet g g g by 1 a",
        "own a 1;own b 2;meet a a a by 99 a;meet a a b by -99 b;meet a b b by 1 c",
        "pair u v 1 2;half w x 2 -2;meet u v u v by 3 c;meet u v w x by 1 b",
        "own f 1",
        "own f 100",
        "own f 2; meet f f f by 1 d",
        "own d 1;own e 1;meet d d e by 1 a;meet e d d by 1 a;meet e e e by 1 a;meet d d e by 1 a",
    };
    private static final int[] NUMBERS = {
        0, 1, -1, 2, 3, 4, 5, 6, 7, 8, 9, 11, 12, 13, 15, 16, 19, 20, 21, 63, 64, 99, 100, -99, -100, 199, 200, 201, 399, 400,
        401, 998, 999, 1000, -998, -999, -1000, -2, -3, 1 << 16, 1 << 24, 1 << 30, Integer.MAX_VALUE, Integer.MAX_VALUE - 1,
        Integer.MIN_VALUE, Integer.MIN_VALUE + 1, Integer.MIN_VALUE + 3,
    };

    // An object answers 512 calls, and what is asked at once is some ten.
    private static final int MOST_CALLS = 495;

    private final Checks checks = new Checks("ModelEdgeTest");
    private final Random random;
    private DrawnWays x;
    private Model m;
    private int asked;

    private ModelEdgeTest(long seed) {
        random = new Random(seed);
    }

    public static void main(String[] args) {
        ModelEdgeTest test = new ModelEdgeTest(Long.getLong("seed", 20261119L));
        int runs = Integer.getInteger("runs", 200);
        for (int run = 0; run < runs; run++) {
            test.run();
        }
        test.checks.end();
    }

    private void run() {
        x = new DrawnWays();
        m = new Model();
        asked = 0;
        while (asked < MOST_CALLS) {
            call();
            due("trouble()", x.trouble(), m.trouble());
            due("where()", x.where(), m.where());
            due("pole()", x.pole(), m.pole());
        }
    }

    private int any() {
        return random.nextInt(3) > 0 ? random.nextInt(5) - 1 : NUMBERS[random.nextInt(NUMBERS.length)];
    }

    private void due(String call, long got, long want) {
        asked++;
        checks.due(call, got, want);
    }

    private void due(String call, boolean got, boolean want) {
        asked++;
        checks.due(call, got, want);
    }

    private void text() {
        String text = TEXTS[random.nextInt(TEXTS.length)];
        int[] five = new int[5];
        for (int from = 0; from < text.length(); from += 20) {
            Checks.twenty(text, from, five);
            due("feed", x.feed(five[0], five[1], five[2], five[3], five[4]), m.feed(five[0], five[1], five[2], five[3], five[4]));
        }
        int n = random.nextInt(8) == 0 ? any() : m.count(7);
        due("book(" + n + ")", x.book(n), m.book(n));
    }

    private int kind() {
        return random.nextInt(15) == 0 ? any() : random.nextInt(Math.max(1, m.count(0)));
    }

    private void meet() {
        int size = random.nextInt(12) == 0 ? random.nextInt(3) : 2 + random.nextInt(5);
        int[] k = new int[6];
        for (int i = 0; i < 6; i++) {
            k[i] = i < size ? kind() : i == size ? -1 : any();
        }
        due("meeting", x.meeting(k[0], k[1], k[2], k[3], k[4], k[5]), m.meeting(k[0], k[1], k[2], k[3], k[4], k[5]));
    }

    private void tell() {
        int size = m.count(2);
        int total = 0;
        for (int i = 0; i < size; i++) {
            int v = i == size - 1 ? -total : random.nextInt(4) == 0 ? random.nextInt(1999) - 999 : random.nextInt(9) - 4;
            total += v;
            due("number", x.number(i, v), m.number(i, v));
        }
    }

    private void row() {
        int i = random.nextInt(4) == 0 ? any() : random.nextInt(Math.max(1, m.count(3)));
        int[] v = new int[6];
        for (int k = 0; k < 6; k++) {
            v[k] = Math.max(0, m.joined(i, 2 * k)) * 100 + Math.max(0, m.joined(i, 2 * k + 1));
        }
        if (random.nextInt(2) == 0) {
            v[random.nextInt(6)] = any();
        }
        due("same(" + i + ", ..)", x.same(i, v[0], v[1], v[2], v[3], v[4], v[5]), m.same(i, v[0], v[1], v[2], v[3], v[4], v[5]));
    }

    private void call() {
        int a = any();
        int b = any();
        int c = any();
        boolean denominator = random.nextBoolean();
        switch (random.nextInt(34)) {
            case 0 -> due("feed", x.feed(a, b, c, a, b), m.feed(a, b, c, a, b));
            case 1 -> {
                int n = random.nextInt(5) == 0 ? a : 401;
                due("book(" + n + ")", x.book(n), m.book(n));
            }
            case 2, 3 -> text();
            case 4, 5, 6 -> meet();
            case 7, 8, 9 -> due("drawings(" + a + ")", x.drawings(a), m.drawings(a));
            case 10 -> due("drawing(" + a + ", " + b + ")", x.drawing(a, b), m.drawing(a, b));
            case 11 -> due("point(" + a + ", " + b + ")", x.point(a, b), m.point(a, b));
            case 12 -> due("joined(" + a + ", " + b + ")", x.joined(a, b), m.joined(a, b));
            case 13 -> due("side(" + a + ", " + b + ")", Checks.side(x, a, b), sideOfModel(a, b));
            case 14 -> due("pairings()", x.pairings(), m.pairings());
            case 15, 16 -> row();
            case 17 -> due("sum", x.sum(a, b, c, denominator), m.sum(a, b, c, denominator));
            case 18 -> due("byPairings", x.byPairings(a, b, c, denominator), m.byPairings(a, b, c, denominator));
            case 19 -> due("number(" + a + ", " + b + ")", x.number(a, b), m.number(a, b));
            case 20, 21, 22 -> tell();
            case 23 -> due("letter(" + a + ", " + b + ")", x.letter(a, b), m.letter(a, b));
            case 24, 25 -> due("at(" + a + ")", x.at(a), m.at(a));
            case 26, 27 -> {
                int side = random.nextInt(3) == 0 ? a : 1 | random.nextInt(64);
                due("parted(" + side + ", " + b + ", " + c + ")", x.parted(side, b, c), m.parted(side, b, c));
            }
            case 28, 29 -> {
                int side = random.nextInt(3) == 0 ? a : 1 | random.nextInt(64);
                due("whole(" + side + ", " + b + ", " + c + ")", x.whole(side, b, c), m.whole(side, b, c));
            }
            case 30 -> due("worth", x.worth(denominator), m.worth(denominator));
            case 31 -> due("rest(" + a + ")", x.rest(a), m.rest(a));
            case 32 -> due("count(" + a + ")", x.count(a), m.count(a));
            default -> {
                due("kind(" + a + ", " + b + ")", x.kind(a, b), m.kind(a, b));
                due("rule(" + b + ", " + c + ")", x.rule(b, c), m.rule(b, c));
                due("fault()", x.fault(), m.fault());
            }
        }
    }

    private long sideOfModel(int i, int k) {
        try {
            return m.side(i, k);
        } catch (NoSuchElementException e) {
            return Checks.NO_SIDE;
        }
    }
}
