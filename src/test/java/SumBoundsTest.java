import java.math.BigInteger;

/** Terms III at their bounds: powers, lowest terms, and parts of fractions as near to 9 * 10^17 as were found. */
final class SumBoundsTest {
    private static final Checks CHECKS = new Checks("SumBoundsTest");
    private static final String THREES = "own f 2;meet f f f by 3 a";
    private static final int MAX = Integer.MAX_VALUE;
    private static final int MIN = Integer.MIN_VALUE;

    public static void main(String[] args) {
        withoutList();
        powersOfEachOrder();
        powersBeside();
        powersThatWrap();
        nothingTogether();
        lowestTerms();
        whatSumsDoNotAsk();
        justWithin();
        justBeyond();
        farBeyond();
        CHECKS.end();
    }

    private static void due(DrawnWays x, int a, int b, int c, long top, long bottom) {
        CHECKS.dueSums(x, a, b, c, top, bottom);
    }

    private static void none(DrawnWays x, int a, int b, int c) {
        int trouble = x.trouble();
        due(x, a, b, c, Checks.NO_LONG, Checks.NO_LONG);
        CHECKS.due("trouble() is left", x.trouble(), trouble);
    }

    private static DrawnWays listed(String text, int order, int... kinds) {
        DrawnWays x = Checks.with(text);
        CHECKS.due("meeting", Checks.meet(x, kinds), kinds.length);
        CHECKS.due("drawings(" + order + ") of " + text, x.drawings(order) > 0, true);
        return x;
    }

    private static void withoutList() {
        DrawnWays x = new DrawnWays();
        for (int order = 0; order <= 3; order++) {
            none(x, order, 0, 0);
        }
        Checks.book(x, THREES);
        none(x, 1, 0, 0);
        x.meeting(0, 0, 0, -1, 0, 0);
        none(x, 1, 0, 0);
        CHECKS.due("drawings(4)", x.drawings(4), -1);
        none(x, 1, 0, 0);
        none(x, 4, 0, 0);
        CHECKS.due("at(1)", x.at(1), true);
        none(x, 1, 0, 0);
        CHECKS.due("drawings(1)", x.drawings(1), 1);
        due(x, 1, 0, 0, 3, 1);
        x.meeting(0, 0, -1, 0, 0, 0);
        none(x, 1, 0, 0);
        x.drawings(2);
        due(x, 2, 0, 0, 9, 4);
        none(x, 1, 0, 0);
        x.book(1);
        due(x, 2, 0, 0, 9, 4);
        Checks.book(x, "own f 2;own f 2");
        due(x, 2, 0, 0, 9, 4);
        Checks.book(x, THREES);
        none(x, 2, 0, 0);
    }

    private static String lettered(int... worths) {
        StringBuilder text = new StringBuilder("own f 1");
        for (int l = 0; l < worths.length; l++) {
            text.append(";meet f f f by ").append(worths[l]).append(' ').append((char) ('a' + l));
        }
        return text.toString();
    }

    // Every way to tell an order as three powers, and none that is one more or one less.
    private static void powersOfEachOrder() {
        DrawnWays x = listed(lettered(2, 3, 5), 1, 0, 0, 0);
        due(x, 1, 0, 0, 2, 1);
        due(x, 0, 1, 0, 3, 1);
        due(x, 0, 0, 1, 5, 1);
        x = listed(lettered(2, 3, 5), 2, 0, 0, 0, 0);
        due(x, 2, 0, 0, 12, 1);
        due(x, 1, 1, 0, 36, 1);
        due(x, 1, 0, 1, 60, 1);
        due(x, 0, 2, 0, 27, 1);
        due(x, 0, 1, 1, 90, 1);
        due(x, 0, 0, 2, 75, 1);
        for (int order = 1; order <= 3; order++) {
            x = listed(lettered(2, 3, 5), order, order == 2 ? new int[4] : new int[3]);
            Model m = Model.with(lettered(2, 3, 5));
            m.meeting(0, 0, 0, order == 2 ? 0 : -1, -1, -1);
            m.drawings(order);
            for (int a = 0; a <= order + 1; a++) {
                for (int b = 0; a + b <= order + 1; b++) {
                    int c = order - a - b;
                    if (c >= 0) {
                        due(x, a, b, c, m.sum(a, b, c, false), m.sum(a, b, c, true));
                    }
                    if (c > 0) {
                        none(x, a, b, c - 1);
                    }
                    none(x, a, b, Math.abs(c) + 1);
                }
            }
        }
    }

    private static void powersBeside() {
        for (int order = 1; order <= 3; order++) {
            DrawnWays x = listed(THREES, order, order == 2 ? new int[2] : new int[3]);
            none(x, 0, 0, 0);
            none(x, -1, 0, order + 1);
            none(x, 0, -1, order + 1);
            none(x, order + 1, -1, 0);
            none(x, order + 1, 0, -1);
            none(x, -1, -1, order + 2);
            none(x, order + 2, -2, 0);
            none(x, -order, 0, 0);
            none(x, -order, order, order);
            none(x, 100, -100, order);
            none(x, MAX, 0, 0);
            none(x, 0, MIN, 0);
            none(x, MAX, -MAX, order);
            due(x, 0, order, 0, 0, 1);
        }
    }

    // Together they are the order if they are added as ints, but not as numbers.
    private static void powersThatWrap() {
        for (int order = 1; order <= 3; order++) {
            DrawnWays x = listed(THREES, order, order == 2 ? new int[2] : new int[3]);
            none(x, MAX, MAX, order + 2);
            none(x, MAX, order + 2, MAX);
            none(x, order + 2, MAX, MAX);
            none(x, MAX, 1 << 30, (1 << 30) + 1 + order);
            none(x, MIN, MIN, order);
            none(x, MIN, order, MIN);
            none(x, order, MIN, MIN);
            none(x, MAX, MIN, order + 1);
            none(x, MIN, order + 1, MAX);
            none(x, MAX, order + 1, MIN);
            none(x, 1 << 30, 1 << 30, MIN + order);
        }
    }

    private static void nothingTogether() {
        // WORTHS that take each other away, of one LETTER and of two.
        String text = "own f 7;meet f f f by 99 a;meet f f f by -99 a;meet f f f by 99 b;meet f f f by -98 b";
        DrawnWays x = listed(text, 1, 0, 0, 0);
        due(x, 1, 0, 0, 0, 1);
        due(x, 0, 1, 0, 1, 1);
        due(x, 0, 0, 1, 0, 1);
        x = listed(text, 2, 0, 0);
        due(x, 2, 0, 0, 0, 1);
        due(x, 1, 1, 0, 0, 1);
        due(x, 0, 2, 0, 1, 49);
        due(x, 0, 0, 2, 0, 1);
        x = listed("own f 7;meet f f f by 99 a;meet f f f by -99 a", 3, 0, 0, 0);
        due(x, 3, 0, 0, 0, 1);
        due(x, 1, 2, 0, 0, 1);
        // Signs that do.
        x = listed("half e p 3 1;own g 2;meet e p g by 2 b", 2, 0, 1);
        due(x, 0, 2, 0, 0, 1);
    }

    private static void lowestTerms() {
        // One bow: WORTH by twice HEAVY.
        int[][] cases = {{1, 1, 1, 2}, {2, 1, 1, 1}, {2, 2, 1, 2}, {99, 99, 1, 2}, {-99, 99, -1, 2}, {98, 49, 1, 1},
            {-98, 7, -7, 1}, {99, 1, 99, 2}, {-99, 98, -99, 196}, {97, 89, 97, 178}, {96, 64, 3, 4}, {-1, 99, -1, 198}};
        for (int[] c : cases) {
            DrawnWays x = listed("own f " + c[1] + ";meet f f f f by " + c[0] + " c", 1, 0, 0);
            due(x, 0, 0, 1, c[2], c[3]);
        }
        // Halves of three RULES that make a whole.
        DrawnWays x = listed("own f 1;own g 3;own h 6;meet f f f f by 1 a;meet f f g g by 1 a;meet f f h h by 6 a", 1, 0, 0);
        due(x, 1, 0, 0, 7, 6);
        x = listed("own f 1;own g 3;own h 6;meet f f f f by 1 a;meet f f g g by 1 a;meet f f h h by 4 a", 1, 0, 0);
        due(x, 1, 0, 0, 1, 1);
    }

    // LETTERS as numbers, NUMBERS and worths are of no matter to sums, and sums are of none to them.
    private static void whatSumsDoNotAsk() {
        DrawnWays x = listed(THREES, 2, 0, 0, 0, 0);
        x.letter(0, 0);
        x.number(0, 5);
        due(x, 2, 0, 0, 27, 2);
        x.letter(0, -99);
        due(x, 2, 0, 0, 27, 2);
        CHECKS.due("at(2)", x.at(2), false);
        CHECKS.due("trouble()", x.trouble(), 8);
        due(x, 2, 0, 0, 27, 2);
        none(x, 2, 1, 0);
        CHECKS.due("trouble() of at(2) still", x.trouble(), 8);
        x.number(0, 0);
        CHECKS.due("at(3), another order", x.at(3), true);
        CHECKS.due("parted", x.parted(3, 0, 2), true);
        due(x, 2, 0, 0, 27, 2);
        CHECKS.due("worth() of parted()", x.worth(false), 9L * 99 * 99);
    }

    private static DrawnWays threeOf(String text) {
        return listed(text, 3, 0, 0, 0);
    }

    /** What the sum is, whether it can be told or not. */
    private static void really(String text, int order, int ends, long top, long bottom) {
        Model m = Model.with(text);
        m.meeting(0, 0, ends > 2 ? 0 : -1, -1, -1, -1);
        m.drawings(order);
        Model.Fraction f = m.list.sum("[" + order + ", 0, 0]");
        CHECKS.due("numerator of " + text, f.top().equals(BigInteger.valueOf(top)), true);
        CHECKS.due("denominator of " + text, f.bottom().equals(BigInteger.valueOf(bottom)), true);
    }

    private static final String[] LARGE_TOPS = {
        "own a 34;own b 99;own c 43;own d 83;meet a a a by -72 a;meet a c c by 87 a;meet a b b by 65 a;meet a b d by -73 a",
        "own a 1;own b 91;own c 76;meet a c c by 79 a;meet a b a by -93 a;meet a b b by -86 a;meet a a a by -87 a",
        "own a 14;own b 94;own c 81;own d 51;own e 96;meet a b b by 86 a;meet a d d by 1 a;meet a c c by 34 a;meet a b a by -93 a",
    };
    private static final String[] BEYOND_TOPS = {
        "own a 23;own b 56;own c 1;own d 74;own e 71;own f 17;meet a d d by 13 a;meet a e e by 4 a;meet a a a by 44 a;"
            + "meet a e c by 76 a",
        "own a 93;own b 16;own c 41;own d 86;meet a d c by -46 a;meet a d d by 41 a;meet a b b by -67 a;meet a a a by -34 a",
    };

    private static void justWithin() {
        due(threeOf(LARGE_TOPS[0]), 3, 0, 0, -899999974147419565L, 31458340368610947L);
        due(threeOf(LARGE_TOPS[1]), 3, 0, 0, -899999860955926093L, 330799583296L);
        due(threeOf(LARGE_TOPS[2]), 3, 0, 0, 899997496953089177L, 15180407211589704L);
        // The same WORTHS with the other sign: an odd number of POINTS turns the sum.
        due(threeOf(LARGE_TOPS[0].replace("-72", "72").replace("by 87", "by -87").replace("by 65", "by -65")
                .replace("-73", "73")), 3, 0, 0, 899999974147419565L, 31458340368610947L);
        due(listed("own a 33;own b 47;own c 86;own d 98;own e 87;own f 65;meet a e c c by -25 a;meet a f f e by 27 a;"
                + "meet a d c b by 36 a;meet a a a a by -7 a", 2, 0, 0), 2, 0, 0, 5132418122916197L, 899991934288246800L);
        due(threeOf("own a 79;own b 97;own c 68;own d 98;meet a b b by -44 a;meet a c b by -74 a;meet a a a by 44 a;"
                + "meet a d d by 2 a"), 3, 0, 0, 743256080820543665L, 899981615945647151L);
    }

    // One part is beyond by less than a millionth or so, and neither is told.
    private static void justBeyond() {
        really(BEYOND_TOPS[0], 3, 3, 900000063044626561L, 1764630223987688L);
        due(threeOf(BEYOND_TOPS[0]), 3, 0, 0, Checks.NO_LONG, Checks.NO_LONG);
        really(BEYOND_TOPS[1], 3, 3, -900000085441382813L, 10739845087064064L);
        due(threeOf(BEYOND_TOPS[1]), 3, 0, 0, Checks.NO_LONG, Checks.NO_LONG);
        String below = "own a 83;own b 52;own c 56;own d 93;meet a d a c by -44 a;meet a a a a by 61 a;"
                + "meet a d d d by 61 a;meet a b c c by -1 a";
        really(below, 2, 2, 11689849741301359L, 900002605012632576L);
        DrawnWays x = listed(below, 2, 0, 0);
        due(x, 2, 0, 0, Checks.NO_LONG, Checks.NO_LONG);
        // Other powers of the same LIST can be told, and the same again if it is drawn anew.
        due(x, 0, 2, 0, 0, 1);
        x.drawings(1);
        CHECKS.due("sum of order 1", x.sum(1, 0, 0, true) > 0, true);
        x.drawings(2);
        due(x, 2, 0, 0, Checks.NO_LONG, Checks.NO_LONG);
    }

    // Denominators of many primes: the parts have up to some eighty digits.
    private static void farBeyond() {
        String[] texts = {
            "own a 97;own b 89;own c 83;own d 79;meet a b b by 99 a;meet a c c by 99 a;meet a d d by 99 a;meet a a a by 99 a",
            "own a 1;own b 89;own c 83;own d 79;meet a b b by 99 a;meet a c c by -99 a;meet a d d by 98 a;meet a a a by 97 a",
            "own a 64;own b 81;own c 49;own d 95;meet a b b by 1 a;meet a c c by 1 a;meet a d d by 1 a;meet a a a by 1 a",
        };
        for (String text : texts) {
            DrawnWays x = threeOf(text);
            Model m = Model.with(text);
            m.meeting(0, 0, 0, -1, -1, -1);
            m.drawings(3);
            Model.Fraction f = m.list.sum("[3, 0, 0]");
            CHECKS.due("beyond: " + f, f.within(Model.SUM_MOST), false);
            due(x, 3, 0, 0, Checks.NO_LONG, Checks.NO_LONG);
        }
    }
}
