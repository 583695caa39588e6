/** Promises 1 to 7: a new object, the tape, and books with their faults. */
final class BookTest {
    private static final Checks CHECKS = new Checks("BookTest");
    private static final String BLANKS = "                    ";

    public static void main(String[] args) {
        newObject();
        tape();
        bookAndTape();
        bookStays();
        kindsAndRules();
        forms();
        otherFaults();
        manyFaults();
        firstFault();
        CHECKS.end();
    }

    private static void due(String call, long got, long want) {
        CHECKS.due(call, got, want);
    }

    // Promise 1
    private static void newObject() {
        DrawnWays x = new DrawnWays();
        for (int what = 0; what < 8; what++) {
            due("new: count(" + what + ")", x.count(what), 0);
        }
        due("new: fault()", x.fault(), 0);
        due("new: where()", x.where(), -1);
        due("new: trouble()", x.trouble(), 0);
        due("new: kind(0, 0)", x.kind(0, 0), Checks.NO_INT);
        due("new: rule(0, 0)", x.rule(0, 0), Checks.NO_INT);
        due("new: pairings()", x.pairings(), -1);
        due("new: point(0, 0)", x.point(0, 0), -1);
        due("new: joined(0, 0)", x.joined(0, 0), -1);
        due("new: same", x.same(0, 1, 2, 3, 4, 5, 6), -1);
        due("new: drawing(0, 0)", x.drawing(0, 0), Checks.NO_INT);
        due("new: sum", x.sum(0, 0, 0, true), Checks.NO_LONG);
        due("new: byPairings", x.byPairings(1, 0, 0, true), Checks.NO_LONG);
        due("new: worth", x.worth(true), Checks.NO_LONG);
        due("new: rest(0)", x.rest(0), -1);
        due("new: pole()", x.pole(), -1);
        CHECKS.dueNoSide("new: side(0, 0)", x, 0, 0);
        due("new: meeting", x.meeting(0, 0, -1, -1, -1, -1), -1);
        due("new: trouble() of meeting", x.trouble(), 1);
        due("new: meeting of none", x.meeting(-1, -1, -1, -1, -1, -1), -1);
        due("new: trouble() of meeting of none", x.trouble(), 1);
        CHECKS.due("new: at(1)", x.at(1), false);
        due("new: trouble() of at", x.trouble(), 1);
        CHECKS.due("new: at(9)", x.at(9), false);
        due("new: trouble() of at(9)", x.trouble(), 1);
        CHECKS.due("new: parted", x.parted(3, 0, 2), false);
        due("new: trouble() of parted", x.trouble(), 1);
        CHECKS.due("new: whole", x.whole(3, 0, 2), false);
        due("new: trouble() of whole", x.trouble(), 1);
        CHECKS.due("new: number", x.number(0, 0), false);
        due("new: trouble() of number", x.trouble(), 1);
    }

    // Promise 2
    private static void tape() {
        DrawnWays x = new DrawnWays();
        for (int n = 1; n <= 20; n++) {
            due("feed " + n, x.feed(0, -1, Integer.MIN_VALUE, Integer.MAX_VALUE, 7), 20 * n);
            due("count(7) behind feed " + n, x.count(7), 20 * n);
        }
        due("feed 21", x.feed(0, 0, 0, 0, 0), -1);
        due("count(7) of a full tape", x.count(7), 400);
        due("feed isn't refused by a trouble", x.trouble(), 0);
        due("book(400) of what is no text", x.book(400), -1);
        due("its fault", x.fault(), 1);
        due("its place", x.where(), 0);
        due("count(7) behind book", x.count(7), 0);

        DrawnWays y = new DrawnWays();
        y.feed(0x6f776e20, 0x65202020, 0x20202020, 0x20202020, 0x20202032);
        due("highest bytes first: own e .. 2", y.book(20), 1);
        due("HEAVY from the last byte", y.kind(0, 1), 2);
    }

    // Promise 3, its numbers; promises 4 and 5
    private static void bookAndTape() {
        DrawnWays x = new DrawnWays();
        due("book(-1)", x.book(-1), -1);
        due("trouble() of book(-1)", x.trouble(), 2);
        due("book(1) of no tape", x.book(1), -1);
        due("trouble() of book(1)", x.trouble(), 2);
        due("fault() behind a book() refused by 2", x.fault(), 0);
        due("book(0)", x.book(0), -1);
        due("trouble() of book(0)", x.trouble(), 4);
        due("fault() of book(0)", x.fault(), 1);
        due("where() of book(0)", x.where(), 0);
        Checks.feed(x, "own e 3");
        due("book(21)", x.book(21), -1);
        due("trouble() of book(21)", x.trouble(), 2);
        due("the tape stays", x.count(7), 20);
        due("fault() is still that of book(0)", x.fault(), 1);
        due("where() of a book() refused by 2", x.where(), -1);
        due("book(max)", x.book(Integer.MAX_VALUE), -1);
        due("book(min)", x.book(Integer.MIN_VALUE), -1);
        due("the tape still stays", x.count(7), 20);
        due("book(20): blanks behind", x.book(20), 1);
        due("trouble() of book(20)", x.trouble(), 0);
        due("fault() of book(20)", x.fault(), 0);
        due("where() of book(20)", x.where(), -1);
        due("the tape is empty", x.count(7), 0);
        Checks.feed(x, "own e 31");
        due("book(7): the first bytes alone", x.book(7), 1);
        due("HEAVY of own e 3", x.kind(0, 1), 3);
        due("the rest of the tape is gone", x.count(7), 0);
        Checks.feed(x, BLANKS + BLANKS + "own e 31");
        due("book behind blanks", x.book(48), 1);
        due("HEAVY of own e 31", x.kind(0, 1), 31);
    }

    private static void bookStays() {
        DrawnWays x = Checks.with("own e 3; meet e e e by 2 b");
        x.meeting(0, 0, -1, 0, 0, 0);
        x.drawings(2);
        x.letter(1, 5);
        due("a faulty book", Checks.book(x, "own f 3; own f 3"), -1);
        due("its trouble", x.trouble(), 4);
        due("its fault", x.fault(), 3);
        due("its place", x.where(), 13);
        due("the tape is empty then", x.count(7), 0);
        due("the BOOK stays", x.kind(0, 1), 3);
        due("its RULE stays", x.rule(0, 1), 2);
        due("the MEETING stays", x.count(2), 2);
        due("the LIST stays", x.count(3), 2);
        due("number() asks anew", x.number(0, 0) ? 1 : 0, 1);
        due("where() when the latest call wasn't refused by 4", x.where(), -1);
        due("fault() still", x.fault(), 3);
        due("another book", Checks.book(x, "pair u v 4 1"), 2);
        due("no RULE now", x.count(1), 0);
        due("no MEETING now", x.count(2), 0);
        due("no LIST now", x.pairings(), -1);
        due("drawings() without a MEETING", x.drawings(1), -1);
        due("trouble() of it", x.trouble(), 1);
    }

    // Promises 6 and 7
    private static void kindsAndRules() {
        DrawnWays x = Checks.with("own z 99;pair u v 1 - 9;half ab abcdefgh 7 3;"
                + "meet u v z by - 99 c;meet z ab abcdefgh z by 99 a;meet z z z by 007 b");
        int[][] kinds = {{0, 99, 0, 0}, {2, 1, -9, 1}, {1, 1, 9, 1}, {4, 7, 3, 2}, {3, 7, -3, 2}};
        for (int i = 0; i < 5; i++) {
            for (int what = 0; what < 4; what++) {
                due("kind(" + i + ", " + what + ")", x.kind(i, what), kinds[i][what]);
            }
            due("kind(" + i + ", 4)", x.kind(i, 4), Checks.NO_INT);
            due("kind(" + i + ", -1)", x.kind(i, -1), Checks.NO_INT);
        }
        due("kind(5, 0)", x.kind(5, 0), Checks.NO_INT);
        due("kind(-1, 0)", x.kind(-1, 0), Checks.NO_INT);
        due("kind(8, 0)", x.kind(8, 0), Checks.NO_INT);
        int[][] rules = {{3, -99, 2, 1, 2, 0, -2}, {4, 99, 0, 0, 3, 4, 0}, {3, 7, 1, 0, 0, 0, -2}};
        for (int i = 0; i < 3; i++) {
            for (int what = 0; what < 7; what++) {
                due("rule(" + i + ", " + what + ")", x.rule(i, what), rules[i][what]);
            }
            due("rule(" + i + ", 7)", x.rule(i, 7), Checks.NO_INT);
            due("rule(" + i + ", -1)", x.rule(i, -1), Checks.NO_INT);
        }
        due("rule(3, 0)", x.rule(3, 0), Checks.NO_INT);
        due("rule(-1, 0)", x.rule(-1, 0), Checks.NO_INT);
        due("count(0)", x.count(0), 5);
        due("count(1)", x.count(1), 3);
        due("eight KINDS", Checks.book(x, "pair a b 1 0;pair c d 1 0;pair e f 1 0;half g h 1 0"), 8);
        due("MARK 0 of pair", x.kind(7, 2), 0);
        due("sort of the eighth", x.kind(7, 3), 2);
        due("no blanks but where words meet", Checks.book(x, "own a1;meet a a a by-3b"), 1);
        due("WORTH of by-3b", x.rule(0, 1), -3);
        due("LETTERS may be NAMES", Checks.book(x, "own a 1;own b 2;meet a b a b by 1 b"), 2);
        due("four LEGS", x.rule(0, 0), 4);
        due("MARK -0", Checks.book(x, "pair a b 1 -0"), 2);
        due("MARK of -0", x.kind(0, 2), 0);
    }

    private static void fault(String text, int number, int place) {
        CHECKS.dueFault(text, number, place);
    }

    private static void forms() {
        fault("   ", 1, 3);
        fault(";", 1, 0);
        fault("own", 1, 3);
        fault("own ", 1, 4);
        fault("own e", 1, 5);
        fault("own e -1", 1, 6);
        fault("own e f", 1, 6);
        fault("own e 1 1", 1, 8);
        fault("own e 1;", 1, 8);
        fault("own e 1; ", 1, 9);
        fault("own e 1;;own f 1", 1, 8);
        fault("own e 1,own f 1", 1, 7);
        fault("Own e 1", 1, 0);
        fault("own E 1", 1, 4);
        fault("own\te 1", 1, 3);
        fault("own e 1\n", 1, 7);
        fault("own own 1", 1, 4);
        fault("own by 1", 1, 4);
        fault("own meet 1", 1, 4);
        fault("own pair 1", 1, 4);
        fault("own half 1", 1, 4);
        fault("own abcdefghi 1", 1, 4);
        fault("own e 0001", 1, 6);
        fault("own e 1000", 1, 6);
        fault("owne 1", 1, 0);
        fault("by e 1", 1, 0);
        fault("pair e 1 1", 1, 7);
        fault("pair e f 1", 1, 10);
        fault("pair e f 1 x", 1, 11);
        fault("pair e f 1 -", 1, 12);
        fault("pair e f 1 --1", 1, 12);
        fault("pair e f 1 - 1000", 1, 13);
        fault("half e f 1 ;", 1, 11);
        fault("own e 1; meet e e by 1 a", 1, 18);
        fault("own e 1; meet e e e 1 a", 1, 20);
        fault("own e 1; meet e e e e 1 a", 1, 22);
        fault("own e 1; meet e e e e own 1 a", 1, 22);
        fault("own e 1; meet e e e by a", 1, 23);
        fault("own e 1; meet e e e by 1", 1, 24);
        fault("own e 1; meet e e e by 1 1", 1, 25);
        fault("own e 1; meet e e e by 1 ;", 1, 25);
        fault("own e 1; meet e e e by 1 abcdefghi", 1, 25);
        fault("own e 1; meet e e e by 1 a a", 1, 27);
        fault("own e 1; meet meet", 1, 14);
        fault("own e 1\u0080", 1, 7);
        fault("\u00e1wn e 1", 1, 0);
    }

    private static void otherFaults() {
        fault("meet e", 2, 5);
        fault("own e 1; meet e e f by 1 a; own f 1", 2, 18);
        fault("own e 1; own e", 3, 13);
        fault("pair e e 1 1", 3, 7);
        fault("pair e f 1 1; half f", 3, 19);
        fault("own e 0", 4, 6);
        fault("own e 000", 4, 6);
        fault("own e 100", 4, 6);
        fault("pair e f 100", 4, 9);
        fault("pair e f 1 10", 4, 11);
        fault("pair e f 1 - 10", 4, 11);
        fault("own e 1; meet e e e by 0 a", 4, 23);
        fault("own e 1; meet e e e by -0 a", 4, 23);
        fault("own e 1; meet e e e by - 100 a", 4, 23);
        fault("own e 1; meet e e e by 100 a", 4, 23);
        fault("own e 1; meet e e e by 1 d", 4, 25);
        fault("own e 1; meet e e e by 1 aa", 4, 25);
        fault("own e 1; meet e e e by 1 own", 4, 25);
        fault("pair u v 1 1; meet u u v by 1 a", 5, 14);
        fault("pair u v 1 1;own e 1;  meet u u e by 1 a", 5, 23);
        fault("half u v 1 0;own e 1; meet u e e by 1 a", 5, 22);
        fault("half u v 1 0;own e 1; meet u e u by 1 a", 5, 22);
        fault("half u v 1 0;half w x 1 0; meet u w u v by 1 a", 5, 27);
        due("a pair KIND twice", Checks.book(new DrawnWays(), "pair u v 1 0; meet u u u by 1 a"), 2);
        due("half KINDS of two sorts", Checks.book(new DrawnWays(), "half u v 1 0;half w x 1 0;meet u w v x by 1 a"), 4);
        due("MARKS that are 0 together", Checks.book(new DrawnWays(), "pair u v 1 2;pair w x 1 1;meet u x x by 1 a"), 4);
    }

    private static void manyFaults() {
        String eight = "own e 1;own f 1;own g 1;own h 1;own i 1;own j 1;own k 1;own l 1";
        due("eight KINDS", Checks.book(new DrawnWays(), eight), 8);
        fault(eight + ";own m 1", 6, eight.length() + 5);
        fault(eight + ";own e 1", 3, eight.length() + 5);
        fault(eight + ";own by 1", 1, eight.length() + 5);
        fault(eight.substring(0, 55) + ";pair l m 1 1", 6, 55 + 8);
        fault(eight.substring(0, 55) + ";pair l l 1 1", 3, 55 + 8);
        fault("own e 1; meet e e e e e by 1 a", 6, 22);
        fault("own e 1; meet e e e e f by 1 a", 2, 22);
        String rule = ";meet e e e by 1 a";
        String four = "own e 1" + rule + rule + rule + rule;
        due("four RULES", Checks.book(new DrawnWays(), four), 1);
        fault(four + rule, 6, four.length() + 1);
        fault(four + ";meet", 6, four.length() + 1);
        fault(four + "; meet f f by ?", 6, four.length() + 2);
        fault(four + ";own e 1", 3, four.length() + 5);
    }

    private static void firstFault() {
        fault("pair u v 1 1; meet u u v by 0 a", 4, 28);
        fault("pair u v 1 1; meet u u v by 1 d", 4, 30);
        fault("pair u v 1 1; meet u u v by 1", 1, 29);
        fault("pair u v 1 1; meet u u v by 1 a ?", 5, 14);
        fault("own e 0; ?", 4, 6);
        fault("own e ?0; own e 1", 1, 6);
        fault("pair u v 0 ?", 4, 9);
    }
}
