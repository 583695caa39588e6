/** What the tests share: feeding texts, and telling answers that aren't the ones due. */
final class Checks {
    static final int NO_INT = Integer.MIN_VALUE;
    static final long NO_LONG = Long.MIN_VALUE;
    static final int NO_SIDE = -77;

    private final String name;
    private int asked;
    private int wrong;

    Checks(String name) {
        this.name = name;
    }

    void due(String call, long got, long want) {
        asked++;
        if (got != want) {
            wrong++;
            System.out.println(name + ": " + call + " answered " + got + ", due is " + want);
        }
    }

    void due(String call, boolean got, boolean want) {
        due(call, got ? 1 : 0, want ? 1 : 0);
    }

    /** Whether a call of side() finds none such. */
    void dueNoSide(String call, DrawnWays x, int i, int k) {
        due(call, side(x, i, k), NO_SIDE);
    }

    /** A text that is refused by a fault at a place, on a new object. */
    void dueFault(String text, int number, int place) {
        DrawnWays x = new DrawnWays();
        due("book of \"" + text + "\"", book(x, text), -1);
        due("trouble() of \"" + text + "\"", x.trouble(), 4);
        due("fault() of \"" + text + "\"", x.fault(), number);
        due("where() of \"" + text + "\"", x.where(), place);
        due("count(0) of \"" + text + "\"", x.count(0), 0);
        due("count(1) of \"" + text + "\"", x.count(1), 0);
        due("count(7) of \"" + text + "\"", x.count(7), 0);
    }

    /** Both parts of both sums. */
    void dueSums(DrawnWays x, int a, int b, int c, long top, long bottom) {
        String powers = "(" + a + ", " + b + ", " + c + ")";
        due("sum" + powers, x.sum(a, b, c, false), top);
        due("sum" + powers + " by", x.sum(a, b, c, true), bottom);
        due("byPairings" + powers, x.byPairings(a, b, c, false), top);
        due("byPairings" + powers + " by", x.byPairings(a, b, c, true), bottom);
    }

    /** A call of at(), parted() or whole() that is told, its worth and its rests. */
    void dueTold(String call, boolean answer, DrawnWays x, long top, long bottom) {
        due(call, answer, true);
        due("trouble() of " + call, x.trouble(), 0);
        due("pole() of " + call, x.pole(), -1);
        due("worth of " + call, x.worth(false), top);
        due("worth of " + call + " by", x.worth(true), bottom);
        for (int k = 0; k < 4; k++) {
            long p = Model.PRIMES[k];
            due("rest(" + k + ") of " + call, Math.floorMod(x.rest(k) * bottom - top, p), 0);
            due("rest(" + k + ") within its prime", x.rest(k) >= 0 && x.rest(k) < p, true);
        }
        due("rest(4)", x.rest(4), -1);
        due("rest(-1)", x.rest(-1), -1);
    }

    /** A call that is refused by a number. */
    void dueRefused(String call, boolean answer, DrawnWays x, int why) {
        due(call, answer, false);
        due("trouble() of " + call, x.trouble(), why);
        due("trouble() of " + call + " again", x.trouble(), why);
        if (why != 5) {
            due("pole() of " + call, x.pole(), -1);
        }
    }

    void end() {
        System.out.println(name + ": " + asked + " answers, " + wrong + " wrong");
        if (wrong > 0) {
            System.exit(1);
        }
    }

    /** Feeds a text, filled up with blanks to twenties; answers the last feed's answer. */
    static int feed(DrawnWays x, String text) {
        int[] five = new int[5];
        int last = 0;
        for (int from = 0; from < text.length(); from += 20) {
            twenty(text, from, five);
            last = x.feed(five[0], five[1], five[2], five[3], five[4]);
        }
        return last;
    }

    static void twenty(String text, int from, int[] five) {
        for (int k = 0; k < 5; k++) {
            int number = 0;
            for (int b = 0; b < 4; b++) {
                int place = from + 4 * k + b;
                number = (number << 8) | (place < text.length() ? text.charAt(place) & 255 : 32);
            }
            five[k] = number;
        }
    }

    /** Feeds a text and reads just as many bytes as it has. */
    static int book(DrawnWays x, String text) {
        feed(x, text);
        return x.book(text.length());
    }

    static DrawnWays with(String text) {
        DrawnWays x = new DrawnWays();
        if (book(x, text) < 0) {
            throw new AssertionError("no book: " + text + " has fault " + x.fault() + " at " + x.where());
        }
        return x;
    }

    /** Tells a meeting of these kinds; what stands behind the -1 that ends them is of no matter. */
    static int meet(DrawnWays x, int... kinds) {
        int[] six = {-1, 77, -3, Integer.MIN_VALUE, Integer.MAX_VALUE, 0};
        System.arraycopy(kinds, 0, six, 0, kinds.length);
        if (kinds.length < 6) {
            six[kinds.length] = -1;
        }
        return x.meeting(six[0], six[1], six[2], six[3], six[4], six[5]);
    }

    /** The side, or NO_SIDE if the call throws. */
    static int side(DrawnWays x, int i, int k) {
        try {
            return x.side(i, k);
        } catch (java.util.NoSuchElementException e) {
            return NO_SIDE;
        }
    }
}
