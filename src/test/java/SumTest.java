/** Promises 16 and 17: sums of drawings and of pairings. */
final class SumTest {
    private static final Checks CHECKS = new Checks("SumTest");

    public static void main(String[] args) {
        knownSums();
        powers();
        signedSums();
        lowestTerms();
        beyond();
        wrongPowers();
        CHECKS.end();
    }

    private static void due(DrawnWays x, int a, int b, int c, long top, long bottom) {
        CHECKS.dueSums(x, a, b, c, top, bottom);
    }

    private static void knownSums() {
        DrawnWays x = Checks.with("own f 1; meet f f f f by 1 c");
        x.meeting(0, 0, -1, 0, 0, 0);
        x.drawings(1);
        due(x, 0, 0, 1, 1, 2);
        x.drawings(2);
        due(x, 0, 0, 2, 2, 3);
        x.meeting(0, 0, 0, 0, -1, 0);
        x.drawings(1);
        due(x, 0, 0, 1, 1, 1);
        // Three ways through a bubble with 1/2, four ends with a loop of their own with 1/2.
        x.drawings(2);
        due(x, 0, 0, 2, 7, 2);
        DrawnWays y = Checks.with("own f 3; meet f f f by -2 a");
        y.meeting(0, 0, -1, 0, 0, 0);
        y.drawings(2);
        // (1/2 + 1/2) * 4 / 9
        due(y, 2, 0, 0, 4, 9);
        y.drawings(1);
        due(y, 1, 0, 0, 0, 1);
        y.drawings(3);
        due(y, 3, 0, 0, 0, 1);
        y.meeting(0, 0, 0, -1, 0, 0);
        y.drawings(1);
        due(y, 1, 0, 0, -2, 1);
    }

    private static void powers() {
        DrawnWays x = Checks.with("own f 2; meet f f f by 3 a; meet f f f by 5 b; meet f f f f by 7 c");
        x.meeting(0, 0, 0, 0, -1, 0);
        x.drawings(2);
        due(x, 2, 0, 0, 27, 2);
        due(x, 1, 1, 0, 45, 1);
        due(x, 0, 2, 0, 75, 2);
        due(x, 1, 0, 1, 0, 1);
        due(x, 0, 0, 2, 343, 8);
        x.drawings(1);
        due(x, 0, 0, 1, 7, 1);
        due(x, 1, 0, 0, 0, 1);
    }

    private static void signedSums() {
        DrawnWays x = Checks.with("half e p 3 1; own g 2; meet e p g by 2 b");
        x.meeting(2, 2, -1, 0, 0, 0);
        x.drawings(2);
        due(x, 0, 2, 0, -4, 9);
        x.meeting(0, 1, -1, 0, 0, 0);
        x.drawings(2);
        // The loop with a tail and the line with a bow have opposite signs and the same worth.
        due(x, 0, 2, 0, 0, 1);
        x.meeting(2, 2, 2, -1, 0, 0);
        x.drawings(3);
        due(x, 0, 3, 0, 16, 27);
    }

    private static void lowestTerms() {
        String text = "own f 6; own g 4; meet f f g by 9 a; meet f f f by 8 a";
        DrawnWays x = Checks.with(text);
        x.meeting(0, 0, -1, 0, 0, 0);
        x.drawings(2);
        long top = x.sum(2, 0, 0, false);
        long bottom = x.sum(2, 0, 0, true);
        CHECKS.due("no divisor in common", gcd(Math.abs(top), bottom), 1);
        CHECKS.due("byPairings", x.byPairings(2, 0, 0, false), top);
        Model m = Model.with(text);
        m.meeting(0, 0, -1, 0, 0, 0);
        m.drawings(2);
        CHECKS.due("as the model has it", top, m.sum(2, 0, 0, false));
        CHECKS.due("as the model has it below", bottom, m.sum(2, 0, 0, true));
    }

    private static long gcd(long a, long b) {
        return b == 0 ? a : gcd(b, a % b);
    }

    // Divisors of many primes: beyond 9 * 10^17 neither part is told.
    private static void beyond() {
        String text = "own f 97; own g 89; own h 83; own i 79; own j 73; own k 71; own l 67; own m 61;"
                + "meet f g h i by 1 a; meet f g j k by 1 a; meet h i l m by 1 a; meet j k l m by 1 a";
        DrawnWays x = Checks.with(text);
        x.meeting(0, 0, -1, 0, 0, 0);
        x.drawings(2);
        CHECKS.due("drawings", x.count(3), 2);
        // Two points alike with g, h, i between them, and two with g, j, k.
        due(x, 2, 0, 0, 83L * 79 + 73L * 71, 89L * 83 * 79 * 73 * 71);
        due(three(97), 3, 0, 0, 7299648239451L, 367891284947698819L);
        // The numerator alone, the denominator alone, and both are beyond.
        due(three(1), 3, 0, 0, Checks.NO_LONG, Checks.NO_LONG);
        due(three(8), 3, 0, 0, Checks.NO_LONG, Checks.NO_LONG);
        due(three(64), 3, 0, 0, Checks.NO_LONG, Checks.NO_LONG);
    }

    private static DrawnWays three(int heavy) {
        DrawnWays x = Checks.with("own a " + heavy + ";own b 97;own c 89;own d 83;meet a b b by 1 a;meet a c c by 1 a;"
                + "meet a d d by 1 a;meet a a a by 1 a");
        x.meeting(0, 0, 0, -1, 0, 0);
        CHECKS.due("drawings", x.drawings(3), 28);
        return x;
    }

    private static void wrongPowers() {
        DrawnWays x = Checks.with("own f 1; meet f f f by 1 a");
        none(x, 0, 0, 0);
        x.meeting(0, 0, -1, 0, 0, 0);
        none(x, 2, 0, 0);
        x.drawings(2);
        none(x, 0, 0, 0);
        none(x, 1, 0, 0);
        none(x, 3, 0, 0);
        none(x, 3, -1, 0);
        none(x, -1, 3, 0);
        none(x, 1, 2, -1);
        none(x, Integer.MAX_VALUE, Integer.MAX_VALUE, 4);
        none(x, Integer.MIN_VALUE, Integer.MIN_VALUE, 2);
        due(x, 0, 1, 1, 0, 1);
        CHECKS.due("sum() doesn't change trouble()", x.trouble(), 0);
    }

    private static void none(DrawnWays x, int a, int b, int c) {
        due(x, a, b, c, Checks.NO_LONG, Checks.NO_LONG);
    }
}
