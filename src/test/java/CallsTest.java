import java.util.function.ToLongFunction;

/** Promise 1, each call being the first of a new object, and each call being the last of 512. */
final class CallsTest {
    private static final Checks CHECKS = new Checks("CallsTest");

    public static void main(String[] args) {
        firstCalls();
        firstCallsAgain();
        lastCalls();
        lastMeetings();
        lastBooks();
        refusedToTheLast();
        CHECKS.end();
    }

    private static long bit(boolean answer) {
        return answer ? 1 : 0;
    }

    // ---- the first call

    private static void first(String call, ToLongFunction<DrawnWays> made, long want, int trouble) {
        DrawnWays x = new DrawnWays();
        CHECKS.due("new: " + call, made.applyAsLong(x), want);
        CHECKS.due("trouble() of new: " + call, x.trouble(), trouble);
        CHECKS.due("where() of new: " + call, x.where(), trouble == 4 ? 0 : -1);
        CHECKS.due("pole() of new: " + call, x.pole(), -1);
        CHECKS.due("fault() of new: " + call, x.fault(), trouble == 4 ? 1 : 0);
        for (int what = 0; what < 7; what++) {
            CHECKS.due("count(" + what + ") of new: " + call, x.count(what), 0);
        }
        CHECKS.due("pairings() of new: " + call, x.pairings(), -1);
        CHECKS.due("worth() of new: " + call, x.worth(false), Checks.NO_LONG);
        // It is as new: a book is told, and all goes on.
        CHECKS.due("count(7) of new: " + call, x.count(7), call.startsWith("feed") ? 20 : 0);
        x.book(x.count(7));
        CHECKS.due("a book behind new: " + call, Checks.book(x, "own f 2;meet f f f by 1 a"), 1);
        CHECKS.due("a meeting", x.meeting(0, 0, 0, 0, -1, 0), 4);
        CHECKS.due("its worth", bit(x.at(2)), 1);
        CHECKS.due("without flows", x.worth(false), -3);
    }

    private static void firstCalls() {
        first("feed", x -> x.feed(0x6f776e20, 0x66203120, 0x20202020, 0x20202020, 0x20202020), 20, 0);
        first("book(0)", x -> x.book(0), -1, 4);
        first("book(1)", x -> x.book(1), -1, 2);
        first("book(-1)", x -> x.book(-1), -1, 2);
        first("fault()", x -> x.fault(), 0, 0);
        first("where()", x -> x.where(), -1, 0);
        for (int i = -1; i <= 8; i++) {
            int n = i;
            first("kind(" + n + ", 0)", x -> x.kind(n, 0), Checks.NO_INT, 0);
            first("kind(0, " + n + ")", x -> x.kind(0, n), Checks.NO_INT, 0);
            first("rule(" + n + ", 0)", x -> x.rule(n, 0), Checks.NO_INT, 0);
            first("rule(0, " + n + ")", x -> x.rule(0, n), Checks.NO_INT, 0);
            first("drawing(0, " + n + ")", x -> x.drawing(0, n), Checks.NO_INT, 0);
            first("drawing(" + n + ", 0)", x -> x.drawing(n, 0), Checks.NO_INT, 0);
            first("point(" + n + ", 0)", x -> x.point(n, 0), -1, 0);
            first("joined(" + n + ", 0)", x -> x.joined(n, 0), -1, 0);
            first("side(" + n + ", 0)", x -> Checks.side(x, n, 0), Checks.NO_SIDE, 0);
            first("same(" + n + ", ..)", x -> x.same(n, 203, 1, 504, 0, 0, 0), -1, 0);
            first("drawings(" + n + ")", x -> x.drawings(n), -1, 1);
            first("number(" + n + ", 0)", x -> bit(x.number(n, 0)), 0, 1);
            first("letter(" + n + ", 1)", x -> bit(x.letter(n, 1)), 0, 1);
            first("at(" + n + ")", x -> bit(x.at(n)), 0, 1);
            first("parted(3, " + n + ", 2)", x -> bit(x.parted(3, n, 2)), 0, 1);
            first("parted(3, 0, " + n + ")", x -> bit(x.parted(3, 0, n)), 0, 1);
            first("whole(" + n + ", 0, 2)", x -> bit(x.whole(n, 0, 2)), 0, 1);
            first("whole(3, 0, " + n + ")", x -> bit(x.whole(3, 0, n)), 0, 1);
            first("rest(" + n + ")", x -> x.rest(n), -1, 0);
            first("count(" + n + ")", x -> x.count(n), n < 0 || n > 7 ? -1 : 0, 0);
            first("meeting(" + n + ", ..)", x -> x.meeting(n, 0, -1, 0, 0, 0), -1, 1);
            first("sum(" + n + ", 0, 0)", x -> x.sum(n, 0, 0, false), Checks.NO_LONG, 0);
            first("byPairings(0, " + n + ", 0)", x -> x.byPairings(0, n, 0, true), Checks.NO_LONG, 0);
        }
        first("pairings()", x -> x.pairings(), -1, 0);
        first("worth(false)", x -> x.worth(false), Checks.NO_LONG, 0);
        first("worth(true)", x -> x.worth(true), Checks.NO_LONG, 0);
        first("pole()", x -> x.pole(), -1, 0);
        first("trouble()", x -> x.trouble(), 0, 0);
    }

    // Objects know nothing of each other: a new one is new, whatever others hold.
    private static void firstCallsAgain() {
        DrawnWays held = held();
        held.at(2);
        DrawnWays x = new DrawnWays();
        CHECKS.due("count(0)", x.count(0), 0);
        CHECKS.due("count(7)", x.count(7), 0);
        CHECKS.due("worth(false)", x.worth(false), Checks.NO_LONG);
        CHECKS.due("letter(0, 1)", bit(x.letter(0, 1)), 0);
        CHECKS.due("the other's count(0)", held.count(0), 1);
        CHECKS.due("its trouble()", held.trouble(), 0);
        CHECKS.due("its worth", held.worth(true), 420);
    }

    // ---- the last call

    /** A book, a meeting with numbers, a list, and twenty bytes of another book: ten calls. */
    private static DrawnWays held() {
        DrawnWays x = new DrawnWays();
        Checks.feed(x, "own f 2; meet f f f by 1 a");
        x.book(26);
        x.meeting(0, 0, 0, 0, -1, 0);
        x.number(0, 1);
        x.number(1, 2);
        x.number(2, 3);
        x.number(3, -6);
        x.drawings(2);
        x.feed(0x6f776e20, 0x67203920, 0x20202020, 0x20202020, 0x20202020);
        return x;
    }

    // One call of many kinds; none of them changes what an object holds.
    private static void fill(DrawnWays x, int n) {
        switch (n % 24) {
            case 0 -> x.at(2);
            case 1 -> x.drawings(2);
            case 2 -> x.byPairings(2, 0, 0, true);
            case 3 -> x.parted(3, 0, 2);
            case 4 -> x.sum(2, 0, 0, true);
            case 5 -> x.whole(5, 0, 3);
            case 6 -> x.same(0, 407, 800, 900, 105, 206, 3);
            case 7 -> x.drawings(4);
            case 8 -> x.meeting(0, 5, -1, 0, 0, 0);
            case 9 -> x.number(0, 1000);
            case 10 -> x.letter(3, 0);
            case 11 -> Checks.side(x, 0, 1);
            case 12 -> x.joined(2, 9);
            case 13 -> x.point(3, 0);
            case 14 -> x.drawing(1, 5);
            case 15 -> x.number(0, 1);
            case 16 -> x.letter(1, 7);
            case 17 -> x.book(21);
            case 18 -> x.pole();
            case 19 -> x.rest(1);
            case 20 -> x.kind(0, 1);
            case 21 -> x.rule(0, 6);
            case 22 -> x.at(3);
            default -> x.count(n);
        }
    }

    private static DrawnWays filled() {
        DrawnWays x = held();
        // held() has made ten calls; with at() they are 511.
        for (int n = 10; n < 510; n++) {
            fill(x, n);
        }
        x.at(2);
        return x;
    }

    private static void last(String call, ToLongFunction<DrawnWays> made, long want) {
        CHECKS.due("the 512th: " + call, made.applyAsLong(filled()), want);
    }

    private static void lastCalls() {
        last("feed", x -> x.feed(0, 0, 0, 0, 0), 40);
        last("book", x -> x.book(20), 1);
        last("book(21)", x -> x.book(21), -1);
        last("fault", x -> x.fault(), 0);
        last("where", x -> x.where(), -1);
        last("kind", x -> x.kind(0, 1), 2);
        last("rule", x -> x.rule(0, 6), -2);
        last("meeting", x -> x.meeting(0, 0, 0, 0, 0, 0), 6);
        last("drawings", x -> x.drawings(2), 3);
        last("drawings of another order", x -> x.drawings(1), 0);
        last("drawing", x -> x.drawing(2, 5), 72);
        last("point", x -> x.point(2, 1), 0);
        last("joined", x -> x.joined(2, 0), 4);
        last("side", x -> Checks.side(x, 2, 0), 9);
        last("side that isn't", x -> Checks.side(x, 3, 0), Checks.NO_SIDE);
        last("pairings", x -> x.pairings(), 216);
        last("same", x -> x.same(2, 405, 708, 1, 902, 306, 0), 0);
        last("same of the second", x -> x.same(0, 407, 508, 2, 901, 306, -7), 1);
        last("same of no PAIRING", x -> x.same(0, 405, 708, 1, 906, 203, 0), -2);
        last("sum", x -> x.sum(2, 0, 0, false), 3);
        last("byPairings", x -> x.byPairings(2, 0, 0, true), 2);
        last("number", x -> bit(x.number(3, -999)), 1);
        last("letter", x -> bit(x.letter(2, 99)), 1);
        last("at", x -> bit(x.at(2)), 1);
        last("parted", x -> bit(x.parted(9, 0, 2)), 1);
        last("whole", x -> bit(x.whole(9, 0, 2)), 1);
        last("worth", x -> x.worth(false), 139);
        last("worth by", x -> x.worth(true), 420);
        last("rest", x -> x.rest(0) * 420L % 1000003, 139);
        last("pole", x -> x.pole(), -1);
        last("count", x -> x.count(5), 3);
        last("trouble", x -> x.trouble(), 0);
    }

    // 512 calls that are dear each: meetings of six ENDS and lists, one by another.
    private static void lastMeetings() {
        DrawnWays x = Checks.with("own d 1;own e 1;meet d e d by 1 a;meet e d e by 1 a;meet e d d by 1 a;meet d d e by 1 a");
        int calls = 6;
        for (; calls + 4 <= 511; calls += 4) {
            CHECKS.due("meeting", x.meeting(0, 1, 0, -1, 0, 0), 3);
            CHECKS.due("drawings", x.drawings(3), 198);
            CHECKS.due("at", bit(x.at(3)), 1);
            CHECKS.due("sums", x.byPairings(3, 0, 0, false) > 0 ? 1 : 0, 1);
        }
        for (; calls < 511; calls++) {
            x.trouble();
        }
        CHECKS.due("the 512th: sum", x.sum(3, 0, 0, true) > 0 ? 1 : 0, 1);
    }

    // 512 calls of feeds and books.
    private static void lastBooks() {
        DrawnWays x = new DrawnWays();
        for (int calls = 0; calls < 510; calls += 3) {
            CHECKS.due("feed", x.feed(0x6f776e20, 0x67203920, 0x20202020, 0x20202020, 0x20202020), 20);
            CHECKS.due("book", x.book(20 - calls % 2), 1);
            CHECKS.due("kind", x.kind(0, 1), 9);
        }
        x.feed(0x6f776e20, 0x67202020, 0x20202020, 0x20202020, 0x20202038);
        CHECKS.due("the 512th: book", x.book(20), 1);
    }

    private static void refusedToTheLast() {
        DrawnWays x = new DrawnWays();
        for (int calls = 0; calls < 511; calls++) {
            CHECKS.due("side of a new object", Checks.side(x, calls, calls), Checks.NO_SIDE);
        }
        CHECKS.due("the 512th: count(0)", x.count(0), 0);
    }
}
