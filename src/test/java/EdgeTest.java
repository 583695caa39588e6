import java.util.NoSuchElementException;
import java.util.Random;

/**
 * Runs of some hundred calls with arguments from all over: nothing but what side() throws may reach the
 * caller, the same calls give the same answers, and no call takes long.
 */
final class EdgeTest {
    private static final String[] TEXTS = {
        "own f 2; meet f f f by 1 a",
        "own f 2; meet f f f f by 1 a; meet f f f by 2 b",
        "half e p 3 1; own g 2; meet e p g by 2 b; meet g g g by 1 a",
        "own a 1;own b 2;meet a a a by 1 a;meet a a b by 1 a;meet a b b by 1 a;meet b b b by 1 a",
        "own a 1;meet a a a by 1 a;meet a a a by 1 b;meet a a a by 1 c;meet a a a by 9 a",
        "own a 97;own b 89;own c 83;own d 79;meet a b c d by 99 a;meet a a b b by -99 a;meet a b c by 99 a;meet a b d by 7 a",
        "pair u v 1 2;half w x 2 -2;meet u v u v by 3 c;meet u v w x by 1 b",
        "own f 1",
        "own f 100",
        "own f 1; meet f f f by 1 a; meet f f f by 1 a; meet f f f by 1 a; meet f f f by 1 a; meet f f f by 1 a",
    };
    private static final int[] EXTREMES = {
        0, 1, -1, 2, 3, 4, 5, 6, 7, 8, 9, 11, 12, 15, 20, 63, 64, 99, 100, 199, 200, 201, 999, 1000, 400, 401,
        -2, -3, -99, -100, -999, -1000, Integer.MAX_VALUE, Integer.MIN_VALUE, Integer.MAX_VALUE - 1, 1 << 30, 1 << 16,
    };

    // An object answers 512 calls, and a text is told by some ten.
    private static final int MOST_CALLS = 500;

    private final Random random;
    private final DrawnWays x = new DrawnWays();
    private long answers = 17;
    private int made;

    private EdgeTest(long seed) {
        random = new Random(seed);
    }

    public static void main(String[] args) {
        Checks checks = new Checks("EdgeTest");
        for (int run = 0; run < 600; run++) {
            long once = new EdgeTest(run).run();
            checks.due("run " + run + " again", new EdgeTest(run).run(), once);
        }
        heavyRuns(checks);
        checks.end();
    }

    // The dearest calls, 512 times on one object.
    private static void heavyRuns(Checks checks) {
        for (int t = 3; t < 6; t++) {
            DrawnWays x = Checks.with(TEXTS[t]);
            x.meeting(0, 0, t == 5 ? -1 : 0, -1, 0, 0);
            long start = System.nanoTime();
            for (int n = 0; n < 250; n++) {
                x.drawings(1 + (n + 2) % 3);
                x.byPairings(3, 0, 0, false);
            }
            checks.due("500 dear calls take less than a minute", System.nanoTime() - start < 60_000_000_000L, true);
        }
    }

    private long run() {
        while (made < MOST_CALLS) {
            answers = answers * 31 + oneCall();
        }
        return answers;
    }

    private int any() {
        int which = random.nextInt(10);
        if (which < 6) {
            return random.nextInt(5) - 1;
        }
        return which < 9 ? EXTREMES[random.nextInt(EXTREMES.length)] : random.nextInt();
    }

    private int kind() {
        return random.nextInt(12) == 0 ? any() : random.nextInt(2);
    }

    private int bookOf(String text) {
        made += text.length() / 20 + 1;
        return Checks.book(x, text);
    }

    // Counts what it makes; some of the cases are two calls.
    private long oneCall() {
        made += 2;
        switch (random.nextInt(28)) {
            case 0: return x.feed(any(), any(), any(), any(), any());
            case 1: return random.nextInt(4) == 0 ? x.book(any()) : 0;
            case 2: return random.nextInt(4) == 0 ? bookOf(TEXTS[random.nextInt(TEXTS.length)]) : 0;
            case 3: return x.fault() * 1000L + x.where();
            case 4: return x.kind(any(), any());
            case 5: return x.rule(any(), any());
            case 6: return x.meeting(kind(), kind(), kind(), kind(), kind(), kind());
            case 7: return x.meeting(kind(), kind(), random.nextInt(2) == 0 ? kind() : -1, -1, any(), any());
            case 8: return x.drawings(any());
            case 9: return x.drawings(1 + random.nextInt(3));
            case 10: return x.drawing(any(), any());
            case 11: return x.point(any(), any());
            case 12: return x.joined(any(), any());
            case 13: return side();
            case 14: return x.pairings();
            case 15: return x.same(any(), any(), any(), any(), any(), any(), any());
            case 16: return x.same(0, 203, 1, 504, 706, any(), any());
            case 17: return x.sum(any(), any(), any(), random.nextBoolean());
            case 18: return x.byPairings(any(), any(), any(), random.nextBoolean());
            case 19: return x.byPairings(x.count(4), 0, 0, random.nextBoolean());
            case 20: return x.number(any(), any()) ? 1 : 0;
            case 21: return x.letter(any(), any()) ? 1 : 0;
            case 22: return x.at(any()) ? 1 : 0;
            case 23: return x.parted(any(), any(), any()) ? 1 : 0;
            case 24: return x.whole(any(), any(), any()) ? 1 : 0;
            case 25: return x.worth(random.nextBoolean());
            case 26: return x.rest(any()) * 100L + x.pole();
            default: return x.count(any()) * 100L + x.trouble();
        }
    }

    private long side() {
        try {
            return x.side(any(), any());
        } catch (NoSuchElementException e) {
            return e.getClass() == NoSuchElementException.class ? -5 : -6;
        }
    }
}
