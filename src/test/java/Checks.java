/** What the tests share: feeding texts, and telling answers that aren't the ones due. */
final class Checks {
    static final int NO_INT = Integer.MIN_VALUE;
    static final long NO_LONG = Long.MIN_VALUE;

    private final String name;
    private int asked;
    private int wrong;

    Checks(String name) {
        this.name = name;
    }

    void due(String call, long got, long want) {
        asked++;
        if (got != want) {
            wrong++;
            System.out.println(name + ": " + call + " answered " + got + ", due is " + want);
        }
    }

    void due(String call, boolean got, boolean want) {
        due(call, got ? 1 : 0, want ? 1 : 0);
    }

    /** Whether a call of side() finds none such. */
    void dueNoSide(String call, DrawnWays x, int i, int k) {
        boolean thrown = false;
        try {
            x.side(i, k);
        } catch (java.util.NoSuchElementException e) {
            thrown = true;
        }
        due(call + " throws", thrown, true);
    }

    void end() {
        System.out.println(name + ": " + asked + " answers, " + wrong + " wrong");
        if (wrong > 0) {
            System.exit(1);
        }
    }

    /** Feeds a text, filled up with blanks to twenties; answers the last feed's answer. */
    static int feed(DrawnWays x, String text) {
        int[] five = new int[5];
        int last = 0;
        for (int from = 0; from < text.length(); from += 20) {
            twenty(text, from, five);
            last = x.feed(five[0], five[1], five[2], five[3], five[4]);
        }
        return last;
    }

    static void twenty(String text, int from, int[] five) {
        for (int k = 0; k < 5; k++) {
            int number = 0;
            for (int b = 0; b < 4; b++) {
                int place = from + 4 * k + b;
                number = (number << 8) | (place < text.length() ? text.charAt(place) & 255 : 32);
            }
            five[k] = number;
        }
    }

    /** Feeds a text and reads just as many bytes as it has. */
    static int book(DrawnWays x, String text) {
        feed(x, text);
        return x.book(text.length());
    }

    static DrawnWays with(String text) {
        DrawnWays x = new DrawnWays();
        if (book(x, text) < 0) {
            throw new AssertionError("no book: " + text + " has fault " + x.fault() + " at " + x.where());
        }
        return x;
    }
}
