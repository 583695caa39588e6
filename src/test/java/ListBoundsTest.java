import java.util.ArrayList;
import java.util.List;

/** Terms II at their bounds: ends, orders, twelve legs, lists empty and full, and numbers beyond. */
final class ListBoundsTest {
    private static final Checks CHECKS = new Checks("ListBoundsTest");
    private static final String THREES = "own f 2;meet f f f by 1 a";
    private static final String FOURS = "own f 3;meet f f f f by 2 c";
    private static final String BOTH = "own f 2;meet f f f by 1 a;meet f f f f by 1 b";
    private static final String FULL = "own d 1;own e 1;meet d e d by 1 a;meet e d e by 1 a;"
            + "meet e d d by 1 a;meet d d e by 1 a";
    private static final String BEYOND = "own d 1;own e 1;meet d d e by 1 a;meet e d d by 1 a;"
            + "meet e e e by 1 a;meet d d e by 1 a";
    private static final int[] FAR = {Integer.MIN_VALUE, Integer.MIN_VALUE + 1, -1000, -2, -1, 198, 200, 201, 1000,
        1 << 16, 1 << 24, Integer.MAX_VALUE};

    public static void main(String[] args) {
        endsOfMeetings();
        wrongKinds();
        refusedMeetings();
        orders();
        twelveLegs();
        rulesTakenTogether();
        emptyLists();
        smallLists();
        largestList();
        listBeyond();
        allRefusalsLeaveTheList();
        drawingNumbers();
        pointNumbers();
        legNumbers();
        cutNumbers();
        cutsByLesserLeg();
        halvesAndMarks();
        everyRowOfSix();
        rowsOfTwelve();
        wellMadeLists();
        CHECKS.end();
    }

    private static void due(String call, long got, long want) {
        CHECKS.due(call, got, want);
    }

    private static DrawnWays met(String text, int... kinds) {
        DrawnWays x = Checks.with(text);
        due("meeting", Checks.meet(x, kinds), kinds.length);
        return x;
    }

    private static DrawnWays listed(String text, int order, int size, int... kinds) {
        DrawnWays x = met(text, kinds);
        due("drawings(" + order + ") of " + text, x.drawings(order), size);
        due("trouble()", x.trouble(), 0);
        due("count(3)", x.count(3), size);
        due("count(4)", x.count(4), order);
        return x;
    }

    // ---- meetings

    private static void endsOfMeetings() {
        for (int size = 0; size <= 6; size++) {
            DrawnWays x = Checks.with(THREES);
            due("meeting of " + size, Checks.meet(x, new int[size]), size < 2 ? -1 : size);
            due("trouble()", x.trouble(), size < 2 ? 2 : 0);
            due("count(2)", x.count(2), size < 2 ? 0 : size);
            due("count(3)", x.count(3), 0);
            due("drawings(1)", x.drawings(1), size == 3 ? 1 : size < 2 ? -1 : 0);
            due("trouble() of it", x.trouble(), size < 2 ? 1 : 0);
            for (int end = -1; end <= 6; end++) {
                CHECKS.due("number(" + end + ", 0)", x.number(end, 0), size >= 2 && end >= 0 && end < size);
            }
        }
        DrawnWays x = Checks.with(THREES);
        due("all six are -1", x.meeting(-1, -1, -1, -1, -1, -1), -1);
        due("trouble()", x.trouble(), 2);
        due("the sixth is -1", x.meeting(0, 0, 0, 0, 0, -1), 5);
        due("none is -1", x.meeting(0, 0, 0, 0, 0, 0), 6);
        due("the third and the fifth are -1", x.meeting(0, 0, -1, 0, -1, 0), 2);
    }

    private static void wrongKinds() {
        int[] wrong = {1, 2, 7, 8, 9, -2, -3, 100, Integer.MAX_VALUE, Integer.MIN_VALUE};
        for (int place = 0; place < 6; place++) {
            for (int kind : wrong) {
                int[] kinds = new int[6];
                kinds[place] = kind;
                DrawnWays x = Checks.with(THREES);
                due("KIND " + kind + " at " + place, Checks.meet(x, kinds), -1);
                due("trouble()", x.trouble(), 1);
                due("count(2)", x.count(2), 0);
                if (place > 1) {
                    kinds[place - 1] = -1;
                    int want = place > 2 ? place - 1 : -1;
                    due("and -1 ahead of it", Checks.meet(x, kinds), want);
                    due("trouble() then", x.trouble(), want < 0 ? 2 : 0);
                }
            }
        }
        DrawnWays x = Checks.with("own a 1;own b 1;own c 1;own d 1;own e 1;own f 1;own g 1;own h 1");
        due("the first and the eighth KIND", Checks.meet(x, 0, 7), 2);
        due("a ninth", Checks.meet(x, 0, 8), -1);
        due("one END of a KIND that isn't: none such comes first", Checks.meet(x, 8), -1);
        due("trouble()", x.trouble(), 1);
        due("one END of a KIND that is", Checks.meet(x, 7), -1);
        due("trouble() of it", x.trouble(), 2);
    }

    private static void refusedMeetings() {
        DrawnWays x = listed(THREES, 2, 3, 0, 0, 0, 0);
        x.number(0, 4);
        x.number(1, -4);
        for (int kind = 1; kind < 3; kind++) {
            due("a refused meeting", Checks.meet(x, 0, 0, kind), -1);
            due("a meeting of one", Checks.meet(x, 0), -1);
            due("ENDS stay", x.count(2), 4);
            due("THE LIST stays", x.count(3), 3);
            due("its order", x.count(4), 2);
            due("side(0, 0)", x.side(0, 0), 3);
        }
        CHECKS.due("NUMBERS stay", x.at(2), true);
        // flows 0, 4, 4
        due("worth", x.worth(false), -1);
        due("worth by", x.worth(true), 12);
        due("the same MEETING told anew", Checks.meet(x, 0, 0, 0, 0), 4);
        due("no LIST", x.count(3), 0);
        due("no order", x.count(4), 0);
        due("pairings()", x.pairings(), -1);
        CHECKS.due("NUMBERS are 0", x.at(2), true);
        due("worth of no flow", x.worth(false), -3);
        due("worth of no flow by", x.worth(true), 4);
    }

    private static void orders() {
        DrawnWays x = listed(THREES, 2, 3, 0, 0, 0, 0);
        for (int order : new int[] {0, 4, -1, 5, 100, Integer.MIN_VALUE, Integer.MAX_VALUE}) {
            due("drawings(" + order + ")", x.drawings(order), -1);
            due("trouble()", x.trouble(), 2);
            due("THE LIST stays", x.count(3), 3);
            due("with its order", x.count(4), 2);
        }
        int[] sizes = {0, 3, 0};
        for (int order = 1; order <= 3; order++) {
            due("drawings(" + order + ")", x.drawings(order), sizes[order - 1]);
            due("trouble()", x.trouble(), 0);
            due("count(4)", x.count(4), order);
        }
    }

    private static void twelveLegs() {
        // 11 and 13 LEGS are odd; 12 are taken, 14 aren't.
        listed(THREES, 3, 0, 0, 0);
        listed(THREES, 3, 7, 0, 0, 0);
        listed(THREES, 3, 0, 0, 0, 0, 0);
        listed(THREES, 3, 0, 0, 0, 0, 0, 0);
        listed(THREES, 3, 0, 0, 0, 0, 0, 0, 0);
        listed(THREES, 2, 2, 0, 0);
        listed(THREES, 2, 3, 0, 0, 0, 0);
        // 12 LEGS, but no join is left to hang them together.
        listed(THREES, 2, 0, 0, 0, 0, 0, 0, 0);
        listed(FOURS, 2, 3, 0, 0);
        listed(FOURS, 2, 7, 0, 0, 0, 0);
        listed(FOURS, 2, 0, 0, 0, 0, 0, 0, 0);
        listed(FOURS, 3, 0, 0, 0);
        listed(FOURS, 1, 1, 0, 0, 0, 0);
        listed(FOURS, 1, 0, 0, 0, 0, 0, 0, 0);
        DrawnWays x = listed(BOTH, 2, 10, 0, 0, 0, 0, 0);
        int sides = 0;
        for (int i = 0; i < 10; i++) {
            due("SHARE", x.drawing(i, 0), 1);
            due("SHARE by", x.drawing(i, 1), 1);
            due("LOOPS", x.drawing(i, 3), 0);
            due("CUTS", x.drawing(i, 4), 1);
            due("PAIRINGS", x.drawing(i, 5), 144);
            due("INNER joins", x.drawing(i, 6), 1);
            due("joined(i, 11)", x.joined(i, x.joined(i, 11)), 11);
            due("joined(i, 12)", x.joined(i, 12), -1);
            int side = x.side(i, 0);
            CHECKS.due("two ENDS or three", Integer.bitCount(side) == 2 || Integer.bitCount(side) == 3, true);
            CHECKS.due("END 0 among them", side % 2 == 1, true);
            sides |= 1 << side;
        }
        due("ten SIDES", Integer.bitCount(sides), 10);
        due("count(5)", x.count(5), 10);
        due("count(6)", x.count(6), 0);
    }

    // Of three POINTS with two ENDS only a, a, b has 12 LEGS; of four ENDS a, a and b, b alone are even.
    private static void rulesTakenTogether() {
        DrawnWays x = met(BOTH, 0, 0);
        int size = x.drawings(3);
        CHECKS.due("drawings(3) of two ENDS", size > 0, true);
        for (int i = 0; i < size; i++) {
            due("point(i, 0)", x.point(i, 0), 0);
            due("point(i, 1)", x.point(i, 1), 0);
            due("point(i, 2)", x.point(i, 2), 1);
        }
        due("sum of a, b, b", x.sum(1, 2, 0, false), 0);
        CHECKS.due("sum of a, a, b", x.sum(2, 1, 0, false) > 0, true);
        x = listed(BOTH, 2, 3 + 7, 0, 0, 0, 0);
        for (int i = 0; i < 10; i++) {
            due("point(i, 0)", x.point(i, 0), i < 3 ? 0 : 1);
            due("point(i, 1)", x.point(i, 1), i < 3 ? 0 : 1);
            due("joined(i, 11)", x.joined(i, 10) >= 0 ? 1 : -1, i < 3 ? -1 : 1);
        }
    }

    // ---- lists

    private static void emptyLists() {
        for (int order = 1; order <= 3; order++) {
            emptyList(listed("own f 1", order, 0, 0, 0), order);
            emptyList(listed("own f 1;own g 1;meet f f f by 1 a", order, 0, 1, 1), order);
            emptyList(listed(THREES, order, 0, 0, 0, 0, 0, 0, 0), order);
        }
    }

    private static void emptyList(DrawnWays x, int order) {
        due("pairings() of an empty LIST", x.pairings(), 0);
        due("count(5)", x.count(5), 0);
        due("count(6)", x.count(6), 0);
        for (int i = -1; i <= 1; i++) {
            due("drawing(" + i + ", 0)", x.drawing(i, 0), Checks.NO_INT);
            due("point(" + i + ", 0)", x.point(i, 0), -1);
            due("joined(" + i + ", 0)", x.joined(i, 0), -1);
            CHECKS.dueNoSide("side(" + i + ", 0)", x, i, 0);
            due("same(" + i + ", ..)", x.same(i, 203, 1, 504, 0, 0, 0), -1);
        }
        due("sum", x.sum(order, 0, 0, false), 0);
        due("sum by", x.sum(0, order, 0, true), 1);
        due("byPairings", x.byPairings(0, 0, order, false), 0);
        due("byPairings by", x.byPairings(order, 0, 0, true), 1);
        due("sum of other powers", x.sum(order, 1, 0, true), Checks.NO_LONG);
        CHECKS.due("at(" + order + ")", x.at(order), true);
        due("worth", x.worth(false), 0);
        due("worth by", x.worth(true), 1);
        due("rest(3)", x.rest(3), 0);
    }

    private static void smallLists() {
        DrawnWays x = listed(THREES, 1, 1, 0, 0, 0);
        int[] facts = {1, 1, 1, 0, 0, 6, 0};
        for (int what = 0; what < 7; what++) {
            due("drawing(0, " + what + ")", x.drawing(0, what), facts[what]);
        }
        due("pairings()", x.pairings(), 6);
        due("count(5)", x.count(5), 1);
        due("count(6)", x.count(6), 1);
        CHECKS.dueNoSide("no CUT", x, 0, 0);
        x = listed(FOURS, 1, 1, 0, 0);
        due("a bow is an INNER join", x.drawing(0, 6), 1);
        due("and a LOOP", x.drawing(0, 3), 1);
        due("and no CUT", x.drawing(0, 4), 0);
        due("count(5)", x.count(5), 0);
        due("count(6)", x.count(6), 1);
    }

    private static void largestList() {
        DrawnWays x = listed(FULL, 3, 198, 0, 1, 0);
        int all = 0;
        for (int i = 0; i < 198; i++) {
            all += x.drawing(i, 5);
        }
        due("pairings()", x.pairings(), all);
        due("drawing(197, 3)", x.drawing(197, 3), 1);
        due("drawing(198, 3)", x.drawing(198, 3), Checks.NO_INT);
        due("point(0, 2)", x.point(0, 2), 0);
        due("point(197, 0)", x.point(197, 0), 3);
        due("point(198, 0)", x.point(198, 0), -1);
        due("joined(198, 0)", x.joined(198, 0), -1);
        due("joined(197, 11)", x.joined(197, x.joined(197, 11)), 11);
        CHECKS.dueNoSide("side(198, 0)", x, 198, 0);
        due("same(198, ..)", x.same(198, 0, 0, 0, 0, 0, 0), -1);
        due("same(197, ..) of its own ROW", same(x, 197, rowOf(x, 197)), 197);
        CHECKS.due("at(3): room", x.at(3), true);
        due("count(5)", x.count(5), 0);
        due("byPairings", x.byPairings(3, 0, 0, false), x.sum(3, 0, 0, false));
        due("byPairings by", x.byPairings(3, 0, 0, true), x.sum(3, 0, 0, true));
    }

    // Refused by 3; all that was listed ahead of it can still be asked.
    private static void listBeyond() {
        DrawnWays x = met(BEYOND, 1, 0, 0);
        due("drawings(3) without a LIST", x.drawings(3), -1);
        due("trouble()", x.trouble(), 3);
        due("no LIST still", x.pairings(), -1);
        due("count(4)", x.count(4), 0);
        due("drawings(2): odd LEGS", x.drawings(2), 0);
        due("drawings(3)", x.drawings(3), -1);
        due("THE LIST that stays is empty", x.pairings(), 0);
        due("its order", x.count(4), 2);
        due("drawings(1)", x.drawings(1), 3);
        for (int turn = 0; turn < 3; turn++) {
            due("drawings(3)", x.drawings(3), -1);
            due("trouble()", x.trouble(), 3);
            CHECKS.due("at(3)", x.at(3), false);
            due("trouble() of at(3)", x.trouble(), 3);
            due("THE LIST stays", x.count(3), 3);
            due("its order", x.count(4), 1);
            int[] rules = {0, 1, 3};
            for (int i = 0; i < 3; i++) {
                due("point(" + i + ", 0)", x.point(i, 0), rules[i]);
                due("drawing(" + i + ", 5)", x.drawing(i, 5), 2);
            }
            due("joined(0, 0)", x.joined(0, 0), 5);
            due("joined(1, 0)", x.joined(1, 0), 3);
            due("same(1, ..)", x.same(1, 305, 400, 201, 0, 0, 0), 1);
            due("sum", x.sum(1, 0, 0, false), 3);
            due("byPairings", x.byPairings(1, 0, 0, false), 3);
        }
        CHECKS.due("at(1)", x.at(1), true);
        due("worth", x.worth(false), 3);
    }

    private static void allRefusalsLeaveTheList() {
        DrawnWays x = listed(FOURS, 2, 3, 0, 0);
        x.drawings(0);
        x.drawings(4);
        x.book(1);
        Checks.book(x, "own f");
        x.meeting(1, 0, -1, 0, 0, 0);
        x.number(2, 0);
        x.number(0, 1000);
        x.letter(0, 100);
        x.at(0);
        x.number(0, 1);
        x.at(1);
        due("trouble()", x.trouble(), 8);
        x.parted(3, 0, 2);
        x.whole(3, 0, 2);
        due("trouble() of a SIDE of two ENDS", x.trouble(), 1);
        due("count(3)", x.count(3), 3);
        due("count(4)", x.count(4), 2);
        due("pairings()", x.pairings(), 768);
        due("joined(2, 9)", x.joined(2, 9), 5);
        due("sum", x.sum(0, 0, 2, true), 81);
        x.number(0, 0);
        CHECKS.due("at(1) of another order", x.at(1), true);
        CHECKS.due("at(3) of another order", x.at(3), true);
        due("joined(2, 9) still", x.joined(2, 9), 5);
        due("side(1, 0) still", x.side(1, 0), 1);
        due("drawings(1)", x.drawings(1), 1);
        due("joined(0, 4)", x.joined(0, 4), 5);
        due("joined(0, 6)", x.joined(0, 6), -1);
    }

    // ---- numbers of drawings, points, legs and cuts

    private static void drawingNumbers() {
        DrawnWays x = listed(FOURS, 2, 3, 0, 0);
        List<Integer> off = new ArrayList<>(List.of(3, 4));
        for (int i : FAR) {
            off.add(i);
        }
        for (int i : off) {
            for (int what = 0; what < 7; what++) {
                due("drawing(" + i + ", " + what + ")", x.drawing(i, what), Checks.NO_INT);
            }
            due("point(" + i + ", 0)", x.point(i, 0), -1);
            due("joined(" + i + ", 0)", x.joined(i, 0), -1);
            due("same(" + i + ", ..)", x.same(i, 203, 1, 607, 405, 908, 0), -1);
            CHECKS.dueNoSide("side(" + i + ", 0)", x, i, 0);
        }
        int[] off2 = {7, 8, 20, -1, -2, Integer.MAX_VALUE, Integer.MIN_VALUE};
        for (int what : off2) {
            due("drawing(0, " + what + ")", x.drawing(0, what), Checks.NO_INT);
            due("drawing(2, " + what + ")", x.drawing(2, what), Checks.NO_INT);
        }
        int[][] facts = {{1, 4, 1, 2, 0, 288, 3}, {1, 4, 1, 2, 1, 288, 3}, {1, 6, 1, 2, 0, 192, 3}};
        for (int i = 0; i < 3; i++) {
            for (int what = 0; what < 7; what++) {
                due("drawing(" + i + ", " + what + ")", x.drawing(i, what), facts[i][what]);
            }
        }
        due("trouble()", x.trouble(), 0);
    }

    private static void pointNumbers() {
        int[][] ends = {{0, 0, 0}, {0, 0, 0, 0}, {0, 0, 0}};
        for (int order = 1; order <= 3; order++) {
            DrawnWays x = met(THREES, ends[order - 1]);
            int last = x.drawings(order) - 1;
            for (int i : new int[] {0, last}) {
                for (int p = 0; p < order; p++) {
                    due("point(" + i + ", " + p + ")", x.point(i, p), 0);
                }
                for (int p : new int[] {-1, -2, order, order + 1, 3, 4, 12, Integer.MIN_VALUE, Integer.MAX_VALUE}) {
                    due("point(" + i + ", " + p + ") of order " + order, x.point(i, p), -1);
                }
            }
        }
    }

    private static void legNumbers() {
        for (int ends = 2; ends <= 4; ends += 2) {
            DrawnWays x = met(FOURS, new int[ends]);
            x.drawings(2);
            int legs = ends + 8;
            for (int i : new int[] {0, x.count(3) - 1}) {
                due("the first LEG's partner's", x.joined(i, x.joined(i, 0)), 0);
                due("the last LEG's partner's", x.joined(i, x.joined(i, legs - 1)), legs - 1);
                for (int leg : new int[] {-1, -2, legs, legs + 1, 12, 13, 16, 100, Integer.MIN_VALUE, Integer.MAX_VALUE}) {
                    due("joined(" + i + ", " + leg + ") of " + legs, x.joined(i, leg), -1);
                }
            }
        }
    }

    private static void cutNumbers() {
        DrawnWays x = listed(THREES, 3, 7, 0, 0, 0);
        int[] cuts = {2, 1, 2, 1, 2, 1, 0};
        int[][] sides = {{3, 7}, {3}, {5, 7}, {5}, {1, 7}, {1}, {}};
        for (int i = 0; i < 7; i++) {
            due("CUTS of " + i, x.drawing(i, 4), cuts[i]);
            for (int k = 0; k < cuts[i]; k++) {
                due("side(" + i + ", " + k + ")", x.side(i, k), sides[i][k]);
            }
            for (int k : new int[] {-1, -2, cuts[i], cuts[i] + 1, 2, 3, 200, Integer.MIN_VALUE, Integer.MAX_VALUE}) {
                CHECKS.dueNoSide("side(" + i + ", " + k + ")", x, i, k);
            }
        }
        due("trouble()", x.trouble(), 0);
    }

    // The tail's LEG is the lesser, though all ENDS are on its SIDE; a bow is no CUT.
    private static void cutsByLesserLeg() {
        DrawnWays x = listed("own f 1;own g 1;own h 1;own k 1;meet g h h by 1 a;meet g f k by 1 b;meet k f f by 1 c",
                3, 3, 0, 0, 0);
        int[] sides = {1, 5, 3};
        for (int i = 0; i < 3; i++) {
            due("SHARE by", x.drawing(i, 1), 2);
            due("LOOPS", x.drawing(i, 3), 1);
            due("CUTS", x.drawing(i, 4), 2);
            due("side(" + i + ", 0)", x.side(i, 0), 7);
            due("side(" + i + ", 1)", x.side(i, 1), sides[i]);
            CHECKS.dueNoSide("side(" + i + ", 2)", x, i, 2);
            for (int p = 0; p < 3; p++) {
                due("point(" + i + ", " + p + ")", x.point(i, p), p);
            }
        }
    }

    private static void halvesAndMarks() {
        String free = "half e p 3 0;own g 2;meet e p g by 2 b";
        DrawnWays x = met(free, 0, 2);
        due("one half END", x.drawings(1), -1);
        due("trouble()", x.trouble(), 7);
        Checks.meet(x, 0, 1, 0);
        due("three half ENDS", x.drawings(2), -1);
        due("trouble()", x.trouble(), 7);
        Checks.meet(x, 0, 0);
        due("two of one half KIND without a MARK", x.drawings(2), 0);
        due("trouble()", x.trouble(), 0);
        Checks.meet(x, 0, 1, 0, 1, 0, 1);
        due("six half ENDS", x.drawings(1), 0);
        due("trouble()", x.trouble(), 0);
        String marked = "half e p 3 9;pair u v 1 -9;own g 2;meet e u g g by 2 b;meet e p g by 1 a;meet u v g by 1 a";
        x = Checks.with("half e p 3 9;pair u v 1 -9;half c d 1 0;own g 2;meet e u c by 2 b;meet e p g by 1 a;meet u v g by 1 a");
        Checks.meet(x, 0, 1, 6);
        due("MARKS 9 and -9", x.drawings(1), 1);
        Checks.meet(x, 0, 2, 4);
        due("MARKS 9 and -9 of other KINDS", x.drawings(1), 0);
        due("trouble()", x.trouble(), 0);
        Checks.meet(x, 1, 3, 5);
        due("what the RULE e u c meets", x.drawings(1), 1);
        Checks.meet(x, 0, 2);
        due("MARKS 0, but one half END", x.drawings(1), -1);
        due("trouble()", x.trouble(), 7);
        Checks.meet(x, 0, 4);
        due("half ENDS even, but MARKS 9", x.drawings(1), -1);
        due("trouble()", x.trouble(), 7);
        Checks.meet(x, 0, 0, 0, 0, 0, 0);
        due("MARKS 54", x.drawings(3), -1);
        due("trouble()", x.trouble(), 7);
        due("a RULE with one half LEG", Checks.book(new DrawnWays(), marked), -1);
    }

    // ---- rows

    private static int[] rowOf(DrawnWays x, int i) {
        int[] row = new int[12];
        for (int leg = 0; leg < 12; leg++) {
            row[leg] = Math.max(0, x.joined(i, leg));
        }
        return row;
    }

    private static int same(DrawnWays x, int i, int... row) {
        return x.same(i, row[0] * 100 + row[1], row[2] * 100 + row[3], row[4] * 100 + row[5],
                row[6] * 100 + row[7], row[8] * 100 + row[9], row[10] * 100 + row[11]);
    }

    // Two ENDS and one POINT of four LEGS: all that six numbers below seven can tell.
    private static void everyRowOfSix() {
        DrawnWays x = null;
        int calls = 600;
        int pairings = 0;
        int[] row = new int[12];
        for (int code = 0; code < 7 * 7 * 7 * 7 * 7 * 7; code++) {
            if (calls > 480) {
                x = met(FOURS, 0, 0);
                x.drawings(1);
                calls = 10;
            }
            calls++;
            boolean pairing = true;
            for (int leg = 0, left = code; leg < 6; leg++, left /= 7) {
                row[leg] = left % 7;
            }
            for (int leg = 0; leg < 6; leg++) {
                pairing &= row[leg] < 6 && row[leg] != leg && row[row[leg]] == leg;
            }
            pairing &= row[0] != 1;
            pairings += pairing ? 1 : 0;
            int got = same(x, 0, row[0], row[1], row[2], row[3], row[4], row[5], code, -code, code, 5, 0, 99);
            if (got != (pairing ? 0 : -2)) {
                due("same() of row " + code, got, pairing ? 0 : -2);
            }
        }
        due("twelve PAIRINGS", pairings, 12);
    }

    // Each of the twelve numbers of a ROW at and beyond its bounds.
    private static void rowsOfTwelve() {
        DrawnWays x = listed(THREES, 3, 7, 0, 0, 0);
        int[] row = rowOf(x, 6);
        due("the least ROW of 6", same(x, 0, row), 6);
        int[] turned = {11, 8, 5, 10, 7, 2, 9, 4, 1, 6, 3, 0};
        due("another naming of 6", same(x, 3, turned), 6);
        for (int leg = 0; leg < 12; leg++) {
            for (int number : new int[] {-1, leg, 12, 15, 16, 28, 99, row[leg] ^ 1, row[leg] + 16, row[leg] - 16}) {
                int[] other = row.clone();
                other[leg] = number;
                due("LEG " + leg + " with " + number, same(x, 0, other), -2);
            }
        }
        int[] numbers = new int[6];
        for (int k = 0; k < 6; k++) {
            numbers[k] = row[2 * k] * 100 + row[2 * k + 1];
        }
        for (int k = 0; k < 6; k++) {
            for (int number : new int[] {Integer.MIN_VALUE, Integer.MAX_VALUE, -numbers[k] - 1, numbers[k] + 10000,
                numbers[k] + 1600, numbers[k] - 1600, 1 << 20, -1}) {
                int[] v = numbers.clone();
                v[k] = number;
                due("number " + k + " is " + number, x.same(0, v[0], v[1], v[2], v[3], v[4], v[5]), -2);
            }
        }
    }

    // Any LIST: rows join two by two, come by rules and then by size, and each is found again.
    private static void wellMadeLists() {
        String[] texts = {THREES, FOURS, BOTH, FULL, "half e p 3 1;own g 2;meet e p g by 2 b;meet g g g by 1 a",
            "pair u v 1 2;own g 1;meet u v g by 3 c;meet u u v v by 1 b;meet g g g by 1 a"};
        int[][] ends = {{0, 0, 0}, {0, 0, 0, 0}, {0, 0}, {0, 1, 0}, {0, 1, 2}, {0, 1}};
        for (int t = 0; t < texts.length; t++) {
            for (int order = 1; order <= 3; order++) {
                wellMade(texts[t], ends[t], order);
            }
        }
    }

    private static void wellMade(String text, int[] ends, int order) {
        DrawnWays x = met(text, ends);
        int size = x.drawings(order);
        String before = "";
        for (int i = 0; i < size; i++) {
            // An object answers 512 calls; a new one has the same LIST.
            x = met(text, ends);
            x.drawings(order);
            StringBuilder key = new StringBuilder();
            for (int p = 0; p < order; p++) {
                key.append(x.point(i, p));
            }
            int[] row = rowOf(x, i);
            for (int leg = 0; x.joined(i, leg) >= 0; leg++) {
                due("joined with each other", x.joined(i, row[leg]), leg);
                key.append((char) (97 + row[leg]));
            }
            CHECKS.due("THE LIST's order of " + before + " and " + key, before.compareTo(key.toString()) < 0, true);
            before = key.toString();
            due("same(" + i + ", its ROW)", same(x, i, row), i);
            due("PAIRINGS by SHARE", x.drawing(i, 0), 1);
        }
    }
}
