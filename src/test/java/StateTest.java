/** Promises 26 and 27: what is counted, and which calls tell their trouble. */
final class StateTest {
    private static final Checks CHECKS = new Checks("StateTest");

    public static void main(String[] args) {
        counts();
        troubleOfLatest();
        refusedLeavesAll();
        twoObjects();
        CHECKS.end();
    }

    private static void counts(String when, DrawnWays x, int... want) {
        for (int what = 0; what < want.length; what++) {
            CHECKS.due(when + ": count(" + what + ")", x.count(what), want[what]);
        }
        CHECKS.due(when + ": count(8)", x.count(8), -1);
        CHECKS.due(when + ": count(-1)", x.count(-1), -1);
        CHECKS.due(when + ": count(max)", x.count(Integer.MAX_VALUE), -1);
        CHECKS.due(when + ": count(min)", x.count(Integer.MIN_VALUE), -1);
    }

    private static void counts() {
        DrawnWays x = new DrawnWays();
        counts("new", x, 0, 0, 0, 0, 0, 0, 0, 0);
        Checks.feed(x, "own f 2; own g 3; meet f f f by 1 a; meet f f g g by 1 a");
        counts("fed", x, 0, 0, 0, 0, 0, 0, 0, 60);
        x.book(60);
        counts("told", x, 2, 2, 0, 0, 0, 0, 0, 0);
        x.meeting(0, 0, 0, 0, -1, 0);
        counts("met", x, 2, 2, 4, 0, 0, 0, 0, 0);
        x.drawings(3);
        Checks.feed(x, "own");
        counts("of order 3", x, 2, 2, 4, x.count(3), 3, 0, x.count(6), 20);
        x.drawings(2);
        counts("of order 2", x, 2, 2, 4, 6, 2, 3, 3, 20);
        x.meeting(0, 0, -1, 0, 0, 0);
        counts("met anew", x, 2, 2, 2, 0, 0, 0, 0, 20);
        x.drawings(1);
        counts("of order 1", x, 2, 2, 2, 1, 1, 0, 1, 20);
        Checks.feed(x, " h 1");
        x.book(24);
        counts("told anew", x, 1, 0, 0, 0, 0, 0, 0, 0);
    }

    // Calls that may be refused: book, meeting, drawings, number, letter, at, parted, whole.
    private static void troubleOfLatest() {
        DrawnWays x = Checks.with("own f 2; meet f f f by 1 a");
        x.meeting(0, 0, 0, 0, -1, 0);
        x.number(0, 1);
        x.at(2);
        CHECKS.due("trouble()", x.trouble(), 8);
        CHECKS.due("trouble() doesn't change itself", x.trouble(), 8);
        x.feed(0, 0, 0, 0, 0);
        x.fault();
        x.where();
        x.kind(99, 99);
        x.rule(99, 99);
        x.drawing(99, 99);
        x.point(99, 99);
        x.joined(99, 99);
        CHECKS.dueNoSide("side(99, 99)", x, 99, 99);
        x.pairings();
        x.same(99, 0, 0, 0, 0, 0, 0);
        x.sum(99, 0, 0, false);
        x.byPairings(99, 0, 0, false);
        x.worth(false);
        x.rest(99);
        x.pole();
        x.count(99);
        CHECKS.due("calls that aren't refused leave trouble()", x.trouble(), 8);
        x.letter(0, 1);
        CHECKS.due("letter() sets it to 0", x.trouble(), 0);
        x.at(2);
        x.number(0, 0);
        CHECKS.due("number() sets it to 0", x.trouble(), 0);
        x.number(9, 0);
        x.drawings(2);
        CHECKS.due("drawings() sets it to 0", x.trouble(), 0);
        x.number(9, 0);
        x.meeting(0, 0, 0, 0, -1, 0);
        CHECKS.due("meeting() sets it to 0", x.trouble(), 0);
        x.number(9, 0);
        x.at(2);
        CHECKS.due("at() sets it to 0", x.trouble(), 0);
        x.number(9, 0);
        x.parted(3, 0, 2);
        CHECKS.due("parted() sets it to 0", x.trouble(), 0);
        x.number(9, 0);
        x.whole(3, 0, 2);
        CHECKS.due("whole() sets it to 0", x.trouble(), 0);
        x.book(7);
        CHECKS.due("book(7) of a zero byte", x.trouble(), 4);
        for (int n = 0; n < 20; n++) {
            x.feed(0, 0, 0, 0, 0);
        }
        CHECKS.due("feed() beyond the tape", x.feed(0, 0, 0, 0, 0), -1);
        CHECKS.due("is no refusal that trouble() tells", x.trouble(), 4);
        CHECKS.due("where() stays with it", x.where(), 0);
        x.book(401);
        CHECKS.due("book() of too many", x.trouble(), 2);
        Checks.book(new DrawnWays(), "own f 1");
        CHECKS.due("another object is of no matter", x.trouble(), 2);
    }

    private static void refusedLeavesAll() {
        DrawnWays x = Checks.with("own f 2; meet f f f by 1 a");
        x.meeting(0, 0, 0, 0, -1, 0);
        int[] numbers = {1, 2, 3, -6};
        for (int i = 0; i < 4; i++) {
            x.number(i, numbers[i]);
        }
        x.letter(0, 3);
        x.drawings(2);
        x.meeting(0, -1, 0, 0, 0, 0);
        x.meeting(0, 7, -1, 0, 0, 0);
        x.drawings(0);
        x.number(0, 1000);
        x.letter(0, 100);
        x.parted(1, 0, 2);
        x.whole(3, 0, 9);
        Checks.book(x, "own");
        CHECKS.due("at(2) behind refused calls", x.at(2), true);
        CHECKS.due("its worth", x.worth(false), 417);
        CHECKS.due("its worth by", x.worth(true), 140);
        CHECKS.due("THE LIST", x.count(3), 3);
        CHECKS.due("its order", x.count(4), 2);
        x.parted(5, 0, 3);
        x.at(1);
        CHECKS.due("THE LIST behind worths of other orders", x.joined(2, 0), 4);
        CHECKS.due("its pairings", x.pairings(), 216);
        CHECKS.due("its sum", x.sum(2, 0, 0, false), 3);
        CHECKS.due("same() behind worths of other meetings", x.same(0, 406, 800 + 9, 10, 502, 700 + 3, 0), x.same(0, 406, 809, 10, 502, 703, 0));
    }

    private static void twoObjects() {
        DrawnWays x = Checks.with("own f 2; meet f f f by 1 a");
        DrawnWays y = Checks.with("own f 2; meet f f f f by 1 a");
        x.meeting(0, 0, -1, 0, 0, 0);
        y.meeting(0, 0, -1, 0, 0, 0);
        x.drawings(2);
        y.drawings(2);
        CHECKS.due("x", x.count(3), 2);
        CHECKS.due("y", y.count(3), 3);
        CHECKS.due("byPairings of x", x.byPairings(2, 0, 0, true), 4);
        CHECKS.due("byPairings of y", y.byPairings(2, 0, 0, true), 12);
        CHECKS.due("byPairings of x again", x.byPairings(2, 0, 0, true), 4);
    }
}
