/** Promises 8 to 15: meetings and their drawings. */
final class MeetingTest {
    private static final Checks CHECKS = new Checks("MeetingTest");
    private static final String THREES = "own f 2; meet f f f by 1 a";
    private static final String FOURS = "own f 3; meet f f f f by 2 c";
    private static final String CHARGES = "half e p 3 1; own g 2; meet e p g by 2 b";

    public static void main(String[] args) {
        meetings();
        refusedDrawings();
        listOfFours();
        listOfThrees();
        rulesInOrder();
        signs();
        twoCuts();
        sideOfAllEnds();
        noRoom();
        rows();
        looking();
        CHECKS.end();
    }

    private static void due(String call, long got, long want) {
        CHECKS.due(call, got, want);
    }

    // Promise 8
    private static void meetings() {
        DrawnWays x = Checks.with(CHARGES);
        due("six ENDS", x.meeting(0, 1, 2, 2, 2, 2), 6);
        due("count(2)", x.count(2), 6);
        due("what stands behind -1 is of no matter", x.meeting(2, 2, -1, 77, -5, 9), 2);
        due("trouble()", x.trouble(), 0);
        due("drawings(2)", x.drawings(2), 1);
        due("one END", x.meeting(0, -1, 0, 0, 0, 0), -1);
        due("trouble() of one END", x.trouble(), 2);
        due("no END", x.meeting(-1, 0, 0, 0, 0, 0), -1);
        due("trouble() of no END", x.trouble(), 2);
        due("a KIND that isn't", x.meeting(0, 3, -1, 0, 0, 0), -1);
        due("trouble() of it", x.trouble(), 1);
        due("one END of a KIND that isn't", x.meeting(3, -1, 0, 0, 0, 0), -1);
        due("trouble() of that", x.trouble(), 1);
        due("a KIND below", x.meeting(0, 0, -2, -1, 0, 0), -1);
        due("trouble() of one below", x.trouble(), 1);
        due("the sixth KIND isn't", x.meeting(2, 2, 2, 2, 2, 8), -1);
        due("trouble() of the sixth", x.trouble(), 1);
        due("a refused meeting leaves ENDS", x.count(2), 2);
        due("and the LIST", x.count(3), 1);
        CHECKS.due("number(0, 5)", x.number(0, 5), true);
        CHECKS.due("at(1) with NUMBERS left", x.at(1), false);
        due("trouble() of it", x.trouble(), 8);
        due("the same meeting anew", x.meeting(2, 2, -1, 0, 0, 0), 2);
        due("no LIST then", x.count(3), 0);
        due("pairings() without a LIST", x.pairings(), -1);
        CHECKS.due("NUMBERS are 0 then", x.at(1), true);
    }

    // Promise 9, its numbers
    private static void refusedDrawings() {
        DrawnWays x = Checks.with(CHARGES);
        due("drawings without a MEETING", x.drawings(0), -1);
        due("trouble()", x.trouble(), 1);
        x.meeting(2, 2, -1, 0, 0, 0);
        due("drawings(2)", x.drawings(2), 1);
        int[] wrong = {0, 4, -1, Integer.MAX_VALUE, Integer.MIN_VALUE};
        for (int order : wrong) {
            due("drawings(" + order + ")", x.drawings(order), -1);
            due("trouble() of drawings(" + order + ")", x.trouble(), 2);
        }
        due("THE LIST stays", x.count(4), 2);
        x.meeting(0, 2, -1, 0, 0, 0);
        due("a wrong order of ENDS that aren't even", x.drawings(4), -1);
        due("trouble() of it", x.trouble(), 2);
        due("ENDS that aren't even", x.drawings(2), -1);
        due("trouble() of them", x.trouble(), 7);
        due("no LIST", x.pairings(), -1);
        x.meeting(0, 0, -1, 0, 0, 0);
        due("MARKS that aren't 0", x.drawings(2), -1);
        due("trouble() of them", x.trouble(), 7);
        DrawnWays y = Checks.with("half e p 3 0; own g 2; meet e p g by 2 b");
        y.meeting(0, 2, -1, 0, 0, 0);
        due("one half END without a MARK", y.drawings(1), -1);
        due("trouble() of it", y.trouble(), 7);
        due("drawings without RULES", Checks.with("own g 2").drawings(1), -1);
        DrawnWays z = Checks.with("own g 2");
        z.meeting(0, 0, -1, 0, 0, 0);
        due("a LIST without RULES", z.drawings(3), 0);
        due("its order", z.count(4), 3);
        due("its PAIRINGS", z.pairings(), 0);
    }

    private static void row(DrawnWays x, int i, int... row) {
        for (int leg = 0; leg < row.length; leg++) {
            due("joined(" + i + ", " + leg + ")", x.joined(i, leg), row[leg]);
        }
        due("joined(" + i + ", " + row.length + ")", x.joined(i, row.length), -1);
        due("joined(" + i + ", -1)", x.joined(i, -1), -1);
    }

    // Of a drawing: denominator of its share (the numerator is 1), sign, loops, cuts, pairings, inner.
    private static void drawing(DrawnWays x, int i, int... facts) {
        due("drawing(" + i + ", 0)", x.drawing(i, 0), 1);
        for (int what = 0; what < facts.length; what++) {
            due("drawing(" + i + ", " + (what + 1) + ")", x.drawing(i, what + 1), facts[what]);
        }
        due("drawing(" + i + ", 7)", x.drawing(i, 7), Checks.NO_INT);
        due("drawing(" + i + ", -1)", x.drawing(i, -1), Checks.NO_INT);
    }

    // Promises 9, 10, 12, 14: the well known shares 1/4, 1/4, 1/6 of two points of four legs.
    private static void listOfFours() {
        DrawnWays x = Checks.with(FOURS);
        x.meeting(0, 0, -1, 0, 0, 0);
        due("order 1", x.drawings(1), 1);
        drawing(x, 0, 2, 1, 1, 0, 12, 1);
        row(x, 0, 2, 3, 0, 1, 5, 4);
        due("order 2", x.drawings(2), 3);
        drawing(x, 0, 4, 1, 2, 0, 288, 3);
        row(x, 0, 2, 3, 0, 1, 6, 7, 4, 5, 9, 8);
        drawing(x, 1, 4, 1, 2, 1, 288, 3);
        row(x, 1, 2, 6, 0, 4, 3, 7, 1, 5, 9, 8);
        drawing(x, 2, 6, 1, 2, 0, 192, 3);
        row(x, 2, 2, 6, 0, 7, 8, 9, 1, 3, 4, 5);
        due("pairings()", x.pairings(), 768);
        due("count(5)", x.count(5), 0);
        due("count(6)", x.count(6), 2);
        due("order 3 has 14 LEGS: not taken together", x.drawings(3), 0);
        due("pairings() of none", x.pairings(), 0);
        due("count(4)", x.count(4), 3);
        x.meeting(0, 0, 0, -1, 0, 0);
        due("an odd number of LEGS", x.drawings(1), 0);
        x.meeting(0, 0, 0, 0, 0, 0);
        due("six ENDS, 14 LEGS", x.drawings(2), 0);
    }

    private static void listOfThrees() {
        DrawnWays x = Checks.with(THREES);
        x.meeting(0, 0, 0, -1, 0, 0);
        due("order 1", x.drawings(1), 1);
        drawing(x, 0, 1, 1, 0, 0, 6, 0);
        due("order 2: 9 LEGS", x.drawings(2), 0);
        due("order 3: 12 LEGS", x.drawings(3), 7);
        int[] shares = {2, 2, 2, 2, 2, 2, 1};
        int[] cuts = {2, 1, 2, 1, 2, 1, 0};
        long all = 0;
        for (int i = 0; i < 7; i++) {
            due("share " + i, x.drawing(i, 1), shares[i]);
            due("loops " + i, x.drawing(i, 3), 1);
            due("cuts " + i, x.drawing(i, 4), cuts[i]);
            all += x.drawing(i, 5);
        }
        due("pairings()", x.pairings(), all);
        row(x, 6, 3, 6, 9, 0, 7, 10, 1, 4, 11, 2, 5, 8);
        due("count(6)", x.count(6), 1);
        x.meeting(0, 0, 0, 0, -1, 0);
        due("four ENDS, order 2", x.drawings(2), 3);
        for (int i = 0; i < 3; i++) {
            drawing(x, i, 1, 1, 0, 1, 72, 1);
            due("side(" + i + ", 0)", x.side(i, 0), 1 + (2 << i));
        }
        due("count(5)", x.count(5), 3);
    }

    // Promises 9 and 11: more points of rule 0 come sooner.
    private static void rulesInOrder() {
        DrawnWays x = Checks.with("own f 1; meet f f f by 1 a; meet f f f f by 1 b; meet f f f by 1 c");
        x.meeting(0, 0, -1, 0, 0, 0);
        due("order 2", x.drawings(2), 11);
        int[][] rules = {{0, 0}, {0, 0}, {0, 2}, {0, 2}, {0, 2}, {0, 2}, {1, 1}, {1, 1}, {1, 1}, {2, 2}, {2, 2}};
        for (int i = 0; i < 11; i++) {
            due("point(" + i + ", 0)", x.point(i, 0), rules[i][0]);
            due("point(" + i + ", 1)", x.point(i, 1), rules[i][1]);
            due("point(" + i + ", 2)", x.point(i, 2), -1);
            due("point(" + i + ", -1)", x.point(i, -1), -1);
        }
        due("point(11, 0)", x.point(11, 0), -1);
        due("point(-1, 0)", x.point(-1, 0), -1);
        // Points of two rules aren't put in another order, so each end may be at either.
        due("share of a bubble of two rules", x.drawing(4, 1), 2);
    }

    // Promise 10: signs of half lines.
    private static void signs() {
        DrawnWays x = Checks.with(CHARGES);
        x.meeting(2, 2, -1, 0, 0, 0);
        x.drawings(2);
        drawing(x, 0, 1, -1, 1, 0, 2, 2);
        row(x, 0, 4, 7, 6, 5, 0, 3, 2, 1);
        x.meeting(0, 1, -1, 0, 0, 0);
        due("order 2", x.drawings(2), 2);
        drawing(x, 0, 1, -1, 1, 1, 2, 2);
        row(x, 0, 3, 2, 1, 0, 7, 6, 5, 4);
        drawing(x, 1, 1, 1, 1, 0, 2, 2);
        row(x, 1, 3, 5, 6, 0, 7, 1, 2, 4);
        x.meeting(1, 0, -1, 0, 0, 0);
        due("the ENDS turned", x.drawings(2), 2);
        due("a lesser LEG of the second NAME", x.drawing(1, 2), -1);
        x.meeting(0, 1, 0, 1, -1, 0);
        due("four half ENDS", x.drawings(2), 2);
        due("their signs differ", x.drawing(0, 2) * x.drawing(1, 2), -1);
        x.meeting(2, 2, 2, -1, 0, 0);
        due("three of g", x.drawings(3), 2);
        due("a loop of three", x.drawing(0, 2), 1);
        due("the other way round", x.drawing(1, 2), 1);
    }

    // Promise 13
    private static void twoCuts() {
        DrawnWays x = Checks.with(THREES);
        x.meeting(0, 0, 0, -1, 0, 0);
        x.drawings(3);
        due("cuts of 0", x.drawing(0, 4), 2);
        due("side(0, 0)", x.side(0, 0), 3);
        due("side(0, 1)", x.side(0, 1), 7);
        CHECKS.dueNoSide("side(0, 2)", x, 0, 2);
        CHECKS.dueNoSide("side(0, -1)", x, 0, -1);
        CHECKS.dueNoSide("side(7, 0)", x, 7, 0);
        CHECKS.dueNoSide("side(-1, 0)", x, -1, 0);
        CHECKS.dueNoSide("side(6, 0)", x, 6, 0);
        CHECKS.dueNoSide("side(min, max)", x, Integer.MIN_VALUE, Integer.MAX_VALUE);
        due("side() doesn't change trouble()", x.trouble(), 0);
        x.meeting(0, 0, -1, 0, 0, 0);
        CHECKS.dueNoSide("side(0, 0) without a LIST", x, 0, 0);
    }

    private static void sideOfAllEnds() {
        DrawnWays x = Checks.with(THREES);
        x.meeting(0, 0, -1, 0, 0, 0);
        x.drawings(2);
        due("a cut before a loop: all ENDS hang with END 0", x.side(0, 0), 3);
        DrawnWays y = Checks.with("own f 1; own g 2; meet f f f by 1 a; meet f g g by 1 a");
        y.meeting(1, 0, 0, 1, -1, 0);
        due("ENDS of two kinds", y.drawings(2), 3);
        due("END 3 with END 0", y.side(0, 0), 9);
        due("END 1 with END 0", y.side(1, 0), 3);
        due("END 2 with END 0", y.side(2, 0), 5);
    }

    // Promise 9: more than 200 drawings are refused, and THE LIST stays.
    private static void noRoom() {
        DrawnWays x = Checks.with("own d 1;own e 1;meet d e d by 1 a;meet e d e by 1 a;meet e d d by 1 a;meet d d e by 1 a");
        x.meeting(0, 1, 0, -1, 0, 0);
        due("just below the room", x.drawings(3), 198);
        due("the last of them", x.drawing(197, 0), 1);
        CHECKS.due("at(3)", x.at(3), true);
        DrawnWays y = Checks.with("own d 1;own e 1;meet d d e by 1 a;meet e d d by 1 a;meet e e e by 1 a;meet d d e by 1 a");
        y.meeting(1, 0, 0, -1, 0, 0);
        due("order 1", y.drawings(1), 3);
        due("order 3: 204", y.drawings(3), -1);
        due("trouble()", y.trouble(), 3);
        due("THE LIST stays", y.count(4), 1);
        due("with its DRAWINGS", y.count(3), 3);
        due("and their joins", y.joined(0, 0), 5);
        due("pairings()", y.pairings(), 6);
        CHECKS.due("at(3)", y.at(3), false);
        due("trouble() of at(3)", y.trouble(), 3);
        due("another LIST of its own", y.drawings(1), 3);
    }

    // Promise 15
    private static void rows() {
        DrawnWays x = Checks.with(FOURS);
        x.meeting(0, 0, -1, 0, 0, 0);
        x.drawings(2);
        due("the least row of 0", x.same(0, 203, 1, 607, 405, 908, 0), 0);
        due("legs beyond are of no matter", x.same(0, 203, 1, 607, 405, 908, -12345), 0);
        due("i tells the rules alone", x.same(2, 203, 1, 607, 405, 908, 0), 0);
        due("another naming of 2", x.same(1, 905, 807, 601, 403, 200, 7), 2);
        due("an END with an END", x.same(0, 100, 304, 205, 706, 908, 0), -2);
        due("a LEG with itself", x.same(0, 3, 1, 607, 405, 908, 0), -2);
        due("a partner joined elsewhere", x.same(0, 203, 1, 607, 504, 908, 0), -2);
        due("a partner beyond", x.same(0, 1203, 1, 607, 405, 908, 0), -2);
        due("a partner beyond 15", x.same(0, 202, 1601, 607, 405, 908, 0), -2);
        due("the tenth LEG of ten", x.same(0, 203, 1, 607, 405, 1008, 0), -2);
        due("a number below 0", x.same(0, -203, 1, 607, 405, 908, 0), -2);
        due("the least int", x.same(0, Integer.MIN_VALUE, 1, 607, 405, 908, 0), -2);
        due("the most int", x.same(0, 203, 1, 607, 405, Integer.MAX_VALUE, 0), -2);
        due("points apart", x.same(0, 203, 1, 504, 706, 908, 0), -2);
        due("no DRAWING 3", x.same(3, 203, 1, 607, 405, 908, 0), -1);
        due("no DRAWING -1", x.same(-1, 203, 1, 607, 405, 908, 0), -1);
        DrawnWays y = Checks.with(CHARGES);
        y.meeting(0, 1, -1, 0, 0, 0);
        y.drawings(2);
        due("a bubble with its points swapped", y.same(0, 602, 107, 403 + 100, 4, 0, 0), -2);
        due("kinds that are no foes", y.same(0, 203, 1, 706, 504, 0, 0), -2);
        due("same() doesn't change trouble()", y.trouble(), 0);
    }

    private static void looking() {
        DrawnWays x = Checks.with(THREES);
        x.meeting(0, 0, 0, 0, -1, 0);
        x.drawings(2);
        for (int i : new int[] {-1, 3, 200, Integer.MAX_VALUE, Integer.MIN_VALUE}) {
            due("drawing(" + i + ", 0)", x.drawing(i, 0), Checks.NO_INT);
            due("joined(" + i + ", 0)", x.joined(i, 0), -1);
            due("point(" + i + ", 0)", x.point(i, 0), -1);
            due("same(" + i + ", ..)", x.same(i, 0, 0, 0, 0, 0, 0), -1);
        }
        due("drawing(0, max)", x.drawing(0, Integer.MAX_VALUE), Checks.NO_INT);
        due("joined(0, max)", x.joined(0, Integer.MAX_VALUE), -1);
        due("point(0, max)", x.point(0, Integer.MAX_VALUE), -1);
    }
}
