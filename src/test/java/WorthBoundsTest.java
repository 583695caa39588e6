/** Terms IV at their bounds: numbers and letters, poles, what is lost, sides, and what is told ahead and behind. */
final class WorthBoundsTest {
    private static final Checks CHECKS = new Checks("WorthBoundsTest");
    private static final int[] PRIMES = Model.PRIMES;
    private static final int MAX = Integer.MAX_VALUE;
    private static final int MIN = Integer.MIN_VALUE;

    public static void main(String[] args) {
        numbersAtTheirBounds();
        numbersOfEnds();
        lettersAtTheirBounds();
        numbersTogether();
        ordersOfWorths();
        polesByHeavy();
        noPoles();
        firstPole();
        poleOfPartsThatIsFirst();
        polesThatWholeLeavesOut();
        numeratorsAtTheBound();
        denominatorsAtTheBound();
        restsByChance();
        lostByTheFourthPrime();
        partsAtTheBound();
        partThatWouldBeLost();
        signsOfParts();
        everySide();
        everyKind();
        aheadOfAnyAnswer();
        behindRefusedCalls();
        knownRests();
        CHECKS.end();
    }

    private static void due(String call, long got, long want) {
        CHECKS.due(call, got, want);
    }

    private static void yes(String call, boolean answer, DrawnWays x) {
        CHECKS.due(call, answer, true);
        due("trouble() of " + call, x.trouble(), 0);
        due("pole() of " + call, x.pole(), -1);
    }

    private static void no(String call, boolean answer, DrawnWays x, int why) {
        CHECKS.dueRefused(call, answer, x, why);
    }

    private static void told(String call, boolean answer, DrawnWays x, long top, long bottom) {
        CHECKS.dueTold(call, answer, x, top, bottom);
    }

    private static DrawnWays met(String text, int... kinds) {
        DrawnWays x = Checks.with(text);
        meet(x, kinds);
        return x;
    }

    private static void meet(DrawnWays x, int... kinds) {
        due("meeting", Checks.meet(x, kinds), kinds.length);
    }

    private static void tell(DrawnWays x, int... numbers) {
        for (int i = 0; i < numbers.length; i++) {
            CHECKS.due("number(" + i + ", " + numbers[i] + ")", x.number(i, numbers[i]), true);
        }
    }

    private static DrawnWays four(int heavy, int... numbers) {
        DrawnWays x = met("own f " + heavy + ";meet f f f by 1 a", 0, 0, 0, 0);
        tell(x, numbers);
        return x;
    }

    // ---- numbers and letters

    private static void numbersAtTheirBounds() {
        DrawnWays x = met("own f 2;meet f f f by 1 a", 0, 0, 0, 0, 0, 0);
        for (int end = 0; end < 6; end++) {
            for (int v : new int[] {-999, -998, -1, 0, 1, 998, 999}) {
                yes("number(" + end + ", " + v + ")", x.number(end, v), x);
            }
            for (int v : new int[] {-1000, -1001, 1000, 1001, 65536, -65536, MAX, MIN, MIN + 999, MIN + 1}) {
                no("number(" + end + ", " + v + ")", x.number(end, v), x, 2);
            }
            yes("number(" + end + ", 0)", x.number(end, 0), x);
        }
        yes("refused numbers aren't taken", x.at(1), x);
        // Each END has its own NUMBER: 1 + 2 + 4 + 8 + 16 - 31.
        tell(x, 1, 2, 4, 8, 16, -31);
        yes("at(1)", x.at(1), x);
        for (int end = 0; end < 6; end++) {
            meet(x, 0, 0, 0, 0, 0, 0);
            yes("at(1) of a MEETING told anew", x.at(1), x);
            tell(x, 1, 2, 4, 8, 16, -31);
            yes("number(" + end + ", 32)", x.number(end, 32), x);
            no("at(1)", x.at(1), x, 8);
        }
    }

    private static void numbersOfEnds() {
        for (int size = 2; size <= 6; size++) {
            DrawnWays x = met("own f 2;meet f f f by 1 a", new int[size]);
            for (int end : new int[] {size, size + 1, 6, 7, 100, -1, -2, MAX, MIN}) {
                no("number(" + end + ", 0) of " + size, x.number(end, 0), x, 1);
                no("number(" + end + ", 1000) of " + size, x.number(end, 1000), x, 1);
                no("number(" + end + ", min) of " + size, x.number(end, MIN), x, 1);
            }
            yes("number(last, 0)", x.number(size - 1, 0), x);
            no("number(last, 1000)", x.number(size - 1, 1000), x, 2);
        }
        // The NUMBER of an END that a smaller MEETING hasn't is gone.
        DrawnWays x = met("own f 2;meet f f f by 1 a", 0, 0, 0, 0);
        tell(x, 1, 2, 3, -6);
        meet(x, 0, 0);
        yes("at(1) of two ENDS", x.at(1), x);
        meet(x, 0, 0, 0, 0);
        yes("at(1) of four again", x.at(1), x);
    }

    private static void lettersAtTheirBounds() {
        DrawnWays x = null;
        for (int l = 0; l < 3; l++) {
            x = met("own f 1;meet f f f by 1 a;meet f f f by 1 b;meet f f f by 1 c", 0, 0, 0);
            for (int v : new int[] {-99, -98, -1, 0, 1, 98, 99}) {
                yes("letter(" + l + ", " + v + ")", x.letter(l, v), x);
                told("at(1)", x.at(1), x, v + 2, 1);
            }
            for (int v : new int[] {-100, 100, 101, 65536, MAX, MIN, MIN + 99}) {
                no("letter(" + l + ", " + v + ")", x.letter(l, v), x, 2);
            }
            told("at(1)", x.at(1), x, 101, 1);
            yes("letter(" + l + ", 1)", x.letter(l, 1), x);
        }
        for (int l : new int[] {-1, -2, 3, 4, 97, MAX, MIN}) {
            no("letter(" + l + ", 1)", x.letter(l, 1), x, 1);
            no("letter(" + l + ", 100)", x.letter(l, 100), x, 1);
            no("letter(" + l + ", min)", x.letter(l, MIN), x, 1);
        }
        told("at(1)", x.at(1), x, 3, 1);
        // Powers of one LETTER, and a LETTER that is 0.
        x = met("own f 1;meet f f f by 1 a;meet f f f by 10 b", 0, 0, 0, 0);
        yes("letter(0, -3)", x.letter(0, -3), x);
        told("a twice, a and b, b twice", x.at(2), x, -3 * 9 + 2 * 3 * 30 - 300, 1);
        yes("letter(0, 0)", x.letter(0, 0), x);
        told("b twice alone", x.at(2), x, -300, 1);
        yes("letter(1, 0)", x.letter(1, 0), x);
        told("nothing", x.at(2), x, 0, 1);
    }

    private static void numbersTogether() {
        int[][] rows = {{1, 0, 0, 0}, {0, 0, 0, -1}, {999, 999, 999, 999}, {-999, -999, -999, -999}, {999, -999, 999, -998},
            {999, -999, -999, 998}, {500, 500, -500, -499}};
        for (int[] row : rows) {
            DrawnWays x = four(2, row);
            for (int order = 1; order <= 3; order++) {
                no("at(" + order + ")", x.at(order), x, 8);
            }
            no("parted(3, 0, 2)", x.parted(3, 0, 2), x, 8);
            no("whole(3, 0, 2)", x.whole(3, 0, 2), x, 8);
            due("drawings() doesn't ask them", x.drawings(2), 3);
        }
        DrawnWays x = met("own f 2;meet f f f by 1 a", 0, 0, 0, 0, 0, 0);
        tell(x, 999, 999, 999, 999, 999, 999);
        no("5994", x.at(1), x, 8);
        tell(x, 999, 999, 999, -999, -999, -999);
        yes("0 of the largest", x.at(1), x);
        told("parted", x.parted(7, 0, 2), x, 0, 1);
    }

    private static void ordersOfWorths() {
        DrawnWays x = four(2, 1, 2, 3, -6);
        for (int order : new int[] {0, 4, -1, 5, 100, MAX, MIN}) {
            no("at(" + order + ")", x.at(order), x, 2);
            no("parted(3, 0, " + order + ")", x.parted(3, 0, order), x, 2);
            no("whole(3, 0, " + order + ")", x.whole(3, 0, order), x, 2);
        }
        no("parted(3, 0, 1)", x.parted(3, 0, 1), x, 2);
        no("whole(3, 0, 1)", x.whole(3, 0, 1), x, 2);
        told("at(1)", x.at(1), x, 0, 1);
        told("at(2)", x.at(2), x, 139, 420);
        told("at(3)", x.at(3), x, 0, 1);
        told("parted(3, 0, 2)", x.parted(3, 0, 2), x, 1, 1);
        told("parted(3, 0, 3)", x.parted(3, 0, 3), x, 0, 1);
        told("whole(3, 0, 2)", x.whole(3, 0, 2), x, 1, 1);
        told("whole(3, 0, 3)", x.whole(3, 0, 3), x, 0, 1);
    }

    // ---- poles

    private static void polesByHeavy() {
        for (int heavy : new int[] {1, 2, 50, 98, 99}) {
            for (int flow : new int[] {heavy, -heavy}) {
                // The flows of SIDES 3, 5, 9: one of them is HEAVY, the others are far away.
                int[][] rows = {{0, flow, 400, -400 - flow}, {0, 400, flow, -400 - flow}, {0, 400, -400 - flow, flow}};
                int[] sides = {3, 5, 9};
                for (int k = 0; k < 3; k++) {
                    DrawnWays x = four(heavy, rows[k]);
                    no("at(2) of HEAVY " + heavy, x.at(2), x, 5);
                    due("pole()", x.pole(), sides[k]);
                    yes("at(1)", x.at(1), x);
                    yes("at(3)", x.at(3), x);
                }
            }
        }
    }

    // A flow that is one more or one less, or none, is no POLE.
    private static void noPoles() {
        toldAtTwo(four(1), -3, 1);
        toldAtTwo(four(99), -1, 3267);
        // flows 100, 98 and 0
        toldAtTwo(four(99, 99, 1, -1, -99), 197L * 9801 - 199L * 9801 - 199L * 197, 199L * 197 * 9801);
        toldAtTwo(four(1, 2, 0, 0, -2), -1, 3);
        // flows 1, 3 and 0
        toldAtTwo(four(2, 2, -1, 1, -2), -20 + 12 - 15, 60);
    }

    private static void toldAtTwo(DrawnWays x, long top, long bottom) {
        told("at(2)", x.at(2), x, top, bottom);
    }

    private static void firstPole() {
        // Two or all of the three flows are HEAVY; the first DRAWING's SIDE is told.
        int[][] rows = {{2, 0, 0, -2}, {2, 0, -2, 0}, {2, -2, 0, 0}, {-1, 3, -1, -1}, {-1, -1, 3, -1}, {-1, -1, -1, 3}};
        int[] sides = {3, 3, 5, 3, 3, 3};
        for (int k = 0; k < rows.length; k++) {
            DrawnWays x = four(2, rows[k]);
            no("at(2)", x.at(2), x, 5);
            due("pole()", x.pole(), sides[k]);
            x.drawings(2);
            due("pole() behind drawings()", x.pole(), -1);
            no("at(2) with THE LIST", x.at(2), x, 5);
            due("pole()", x.pole(), sides[k]);
        }
        // By RULES: the line of KIND g, that RULE 1 has, has its POLE at SIDE 3; RULE 0 has one at SIDE 5.
        DrawnWays x = met("own f 2;own g 3;meet f f f by 1 a;meet f f g by 1 a", 0, 0, 0, 0);
        tell(x, 0, 3, 2, -5);
        no("at(2)", x.at(2), x, 5);
        due("pole() of RULE 0", x.pole(), 5);
        tell(x, 0, 3, 4, -7);
        no("at(2)", x.at(2), x, 5);
        due("pole() of RULE 1", x.pole(), 3);
        tell(x, 0, 4, 3, -7);
        no("at(2)", x.at(2), x, 5);
        due("pole() of RULE 1 at another SIDE", x.pole(), 5);
        tell(x, 0, 4, 5, -9);
        yes("at(2)", x.at(2), x);
    }

    // The lesser order of the first SIDE first: the others have order 2 then, and their POLE is met first.
    private static void poleOfPartsThatIsFirst() {
        DrawnWays x = met("own f 2;meet f f f by 1 a", 0, 0, 0, 0, 0, 0);
        // ENDS 0, 1, 2 and one more: 1, 100, 1, -102, a POLE of 0 with 2; the others: 3, -1, -104, 102, one of 0 with 1.
        tell(x, 1, 100, 1, 3, -1, -104);
        no("parted(7, 0, 3)", x.parted(7, 0, 3), x, 5);
        due("pole() of the others", x.pole(), 3);
        tell(x, 1, 100, 1, 30, -1, -131);
        no("parted(7, 0, 3)", x.parted(7, 0, 3), x, 5);
        due("pole() of the first", x.pole(), 5);
        // The added END is the last: 100, 50, -48, -102 have a POLE of 0 with it.
        tell(x, 100, 50, -48, 33, -35, -100);
        no("parted(7, 0, 3)", x.parted(7, 0, 3), x, 5);
        due("pole() of the others", x.pole(), 3);
        tell(x, 100, 50, -48, 33, 5, -140);
        no("parted(7, 0, 3)", x.parted(7, 0, 3), x, 5);
        due("pole() of the first with its added END", x.pole(), 9);
        // And so have the others: -158, 40, -42, 160.
        tell(x, 100, 50, 10, -158, 40, -42);
        no("parted(7, 0, 3)", x.parted(7, 0, 3), x, 5);
        due("pole() of the others with their added END", x.pole(), 9);
        told("order 2: parts of one POINT have no joins", x.parted(7, 0, 2), x, 0, 1);
        due("pole() is gone", x.pole(), -1);
    }

    private static void polesThatWholeLeavesOut() {
        DrawnWays x = four(2, 1, 1, 5, -7);
        no("at(2)", x.at(2), x, 5);
        told("whole(3, 0, 2)", x.whole(3, 0, 2), x, 1, 1);
        told("whole(5, 0, 2)", x.whole(5, 0, 2), x, 1, 1);
        told("parted(3, 0, 2)", x.parted(3, 0, 2), x, 1, 1);
        tell(x, 2, 0, 0, -2);
        no("at(2) of two POLES", x.at(2), x, 5);
        told("whole(3, 0, 2)", x.whole(3, 0, 2), x, 1, 1);
        told("whole(5, 0, 2)", x.whole(5, 0, 2), x, 1, 1);
        told("whole(9, 0, 2)", x.whole(9, 0, 2), x, 1, 1);
    }

    // ---- lost

    // No flows and HEAVY 1: the worth is -(f * a) * (h * b) - 2 * ((c + d) * the LETTER c) squared.
    private static DrawnWays still(int f, int h, int c, int d) {
        DrawnWays x = met("own f 1;own g 1;own h 1;own k 1;meet f f g by " + f + " a;meet h h g by " + h + " b;"
                + "meet f h k by " + c + " c;meet k f h by " + d + " c", 0, 0, 2, 2);
        return x;
    }

    private static void numeratorsAtTheBound() {
        DrawnWays x = still(75, 80, 80, 80);
        x.letter(0, 79);
        x.letter(1, 80);
        x.letter(2, 95);
        told("-500,000,000", x.at(2), x, -500000000, 1);
        // 97 * 73 * 93 * 19 - 2 * (184 * 87) squared
        x = still(97, 93, 92, 92);
        x.letter(0, -73);
        x.letter(1, 19);
        x.letter(2, 87);
        no("-500,000,001", x.at(2), x, 6);
        due("worth() ahead of any", x.worth(false), Checks.NO_LONG);
        x.letter(1, 20);
        told("one letter more", x.at(2), x, 97L * 73 * 93 * 20 - 2L * 184 * 87 * 184 * 87, 1);
        x.letter(1, 19);
        no("-500,000,001 again", x.at(2), x, 6);
        due("worth() stays", x.worth(false), 97L * 73 * 93 * 20 - 2L * 184 * 87 * 184 * 87);
        x = still(82, 55, 96, 96);
        x.letter(0, 41);
        x.letter(1, 23);
        x.letter(2, 82);
        no("-500,000,002", x.at(2), x, 6);
    }

    private static void denominatorsAtTheBound() {
        DrawnWays x = four(28, 479, -858, 11, 368);
        told("6287 by 499,999,500", x.at(2), x, 6287, 499999500);
        x = four(30, 104, -282, 262, -84);
        told("-979,999 by 499,999,500", x.at(2), x, -979999, 499999500);
        x = four(97, -64, 217, -98, -55);
        told("170,633 by 499,999,500", x.at(2), x, 170633, 499999500);
        x = four(2, -197, 16, 198, -17);
        no("-166,641,433 by 500,002,848", x.at(2), x, 6);
        x = four(14, 769, -780, -751, 762);
        no("-2,760,221 by 500,003,200", x.at(2), x, 6);
        x = four(53, 405, -602, 617, -420);
        no("-179,131 by 500,004,000", x.at(2), x, 6);
        for (int k = 0; k < 4; k++) {
            due("rest(" + k + ") ahead of any", x.rest(k), -1);
        }
    }

    // Far beyond the bounds, but a small fraction has the rests of all four primes, and so is told.
    private static void restsByChance() {
        DrawnWays x = four(66, -595, 856, -105, -156);
        told("1/63,765 + 1/485,644 + 1/559,645", x.at(2), x, 288549219, 485773871);
        long d = (261L * 261 - 66 * 66) * (700L * 700 - 66 * 66);
        CHECKS.due("which isn't what it is", d > 500000000L, true);
        x = four(30, 525, -330, 631, -826);
        told("likewise", x.at(2), x, -224870555, 389645237);
    }

    // The first three primes have a small fraction, the fourth hasn't.
    private static void lostByTheFourthPrime() {
        DrawnWays x = four(2, 748, 69, -27, -790);
        no("at(2)", x.at(2), x, 6);
        x = four(2, 317, -237, 62, -142);
        no("at(2)", x.at(2), x, 6);
        due("rest(3)", x.rest(3), -1);
    }

    // The sum of the RULES is 22,360 and 22,361 at each SIDE: squares next to 500,000,000.
    private static void partsAtTheBound() {
        DrawnWays x = met("own f 1;meet f f f by 99 a;meet f f f by 99 b;meet f f f by 1 c;meet f f f by 99 a", 0, 0, 0, 0);
        x.letter(0, 99);
        x.letter(1, 27);
        x.letter(2, 85);
        for (int side = 3; side <= 9; side += side - 1) {
            told("parted(" + side + ", 0, 2)", x.parted(side, 0, 2), x, 22360L * 22360, 1);
            told("whole(" + side + ", 0, 2)", x.whole(side, 0, 2), x, 22360L * 22360, 1);
        }
        x.letter(2, 86);
        no("parted of 22,361", x.parted(3, 0, 2), x, 6);
        due("worth() stays", x.worth(false), 22360L * 22360);
        no("whole of 22,361", x.whole(3, 0, 2), x, 6);
        no("at(2)", x.at(2), x, 6);
        told("at(1)", x.at(1), x, 0, 1);
        x.letter(0, -99);
        x.letter(1, -27);
        x.letter(2, -86);
        no("parted of -22,361", x.parted(3, 0, 2), x, 6);
        x.letter(2, -85);
        told("parted of -22,360", x.parted(3, 0, 2), x, 22360L * 22360, 1);
    }

    // A part is 86,119 by 859,446,900 and could not be told; thirty times that can.
    private static void partThatWouldBeLost() {
        String text = "own f 2;own h 1;meet f f f by 1 a;meet h h f by 30 b";
        DrawnWays x = met(text, 0, 0, 0, 0);
        tell(x, 99, 48, 124, -271);
        no("the part for itself", x.at(2), x, 6);
        x = met(text, 0, 0, 0, 1, 1);
        tell(x, 99, 48, 124, -200, -71);
        told("parted(7, 0, 3)", x.parted(7, 0, 3), x, 86119, 28648230);
        // 30 by 271 * 271 - 4, 900 by 76 * 76 - 1 and by 53 * 53 - 1
        told("parted(3, 0, 3): other parts", x.parted(3, 0, 3), x, 770269, 1615614);
        x.letter(1, 1);
        told("again", x.parted(7, 0, 3), x, 86119, 28648230);
        x.letter(1, 0);
        told("and no times it", x.parted(7, 0, 3), x, 0, 1);
    }

    // ---- sides and kinds

    private static void everySide() {
        for (int size = 2; size <= 6; size++) {
            DrawnWays x = null;
            int calls = 600;
            for (int side = -70; side <= 130; side++) {
                if (calls > 400) {
                    x = met("own f 2;meet f f f by 1 a", new int[size]);
                    calls = 20;
                }
                calls += 10;
                int in = Integer.bitCount(side);
                boolean good = side > 0 && side < 1 << size && side % 2 == 1 && in >= 2 && size - in >= 2;
                boolean got = x.parted(side, 0, 2);
                CHECKS.due("parted(" + side + ", 0, 2) of " + size, got, good);
                due("its trouble()", x.trouble(), good ? 0 : 1);
                if (!good) {
                    no("parted(" + side + ", 0, 9)", x.parted(side, 0, 9), x, 1);
                }
                got = x.whole(side, 0, 3);
                CHECKS.due("whole(" + side + ", 0, 3) of " + size, got, good);
                due("its trouble()", x.trouble(), good ? 0 : 1);
                if (!good) {
                    no("whole(" + side + ", 0, 9)", x.whole(side, 0, 9), x, 1);
                }
            }
            for (int side : new int[] {MIN, MIN + 1, MIN + 3, MIN + 5, MAX, MAX - 1, 3 | 1 << 16, 5 | 1 << 30, -13, 3 | 1 << 6}) {
                no("parted(" + side + ", 0, 2) of " + size, x.parted(side, 0, 2), x, 1);
                no("whole(" + side + ", 0, 2) of " + size, x.whole(side, 0, 2), x, 1);
            }
        }
    }

    private static void everyKind() {
        DrawnWays x = met("own f 2;pair u v 1 0;meet f f f by 3 a;meet u f f by 1 a;meet v f f by 5 a", 0, 0, 0, 0);
        long[] worths = {9, 5, 5};
        for (int kind = -3; kind <= 12; kind++) {
            boolean there = kind >= 0 && kind < 3;
            if (there) {
                told("parted(3, " + kind + ", 2)", x.parted(3, kind, 2), x, worths[kind], 1);
                told("whole(3, " + kind + ", 2)", x.whole(3, kind, 2), x, worths[kind], 1);
            } else {
                no("parted(3, " + kind + ", 2)", x.parted(3, kind, 2), x, 1);
                no("whole(3, " + kind + ", 2)", x.whole(3, kind, 2), x, 1);
                no("parted(3, " + kind + ", 0)", x.parted(3, kind, 0), x, 1);
            }
        }
        for (int kind : new int[] {MIN, MAX, 256, 1 << 16}) {
            no("parted(3, " + kind + ", 2)", x.parted(3, kind, 2), x, 1);
            no("whole(3, " + kind + ", 4)", x.whole(3, kind, 4), x, 1);
        }
        // The KIND is that of the END that the SIDE's part gets: it meets a LEG of its FOE there.
        x = met("own f 2;own h 2;pair u v 1 0;meet u f f by 7 a;meet v h h by 5 a", 0, 0, 1, 1);
        told("parted(3, 3, 2): u is met by v", x.parted(3, 3, 2), x, 35, 1);
        told("whole(3, 3, 2)", x.whole(3, 3, 2), x, 35, 1);
        told("parted(3, 2, 2)", x.parted(3, 2, 2), x, 0, 1);
        told("whole(3, 2, 2)", x.whole(3, 2, 2), x, 0, 1);
    }

    // ---- what is told ahead and behind

    private static void nothingTold(DrawnWays x) {
        due("worth(false)", x.worth(false), Checks.NO_LONG);
        due("worth(true)", x.worth(true), Checks.NO_LONG);
        for (int k = -1; k <= 4; k++) {
            due("rest(" + k + ")", x.rest(k), -1);
        }
        due("pole()", x.pole(), -1);
    }

    private static void aheadOfAnyAnswer() {
        DrawnWays x = new DrawnWays();
        nothingTold(x);
        no("at(1)", x.at(1), x, 1);
        nothingTold(x);
        Checks.book(x, "own f 2;meet f f f by 1 a");
        nothingTold(x);
        meet(x, 0, 0, 0, 0);
        nothingTold(x);
        x.drawings(2);
        nothingTold(x);
        x.number(0, 1);
        no("at(2)", x.at(2), x, 8);
        nothingTold(x);
        no("parted(3, 0, 1)", x.parted(3, 0, 1), x, 2);
        nothingTold(x);
        no("whole(1, 0, 2)", x.whole(1, 0, 2), x, 1);
        nothingTold(x);
        tell(x, 1, 1, 5, -7);
        no("at(2)", x.at(2), x, 5);
        due("worth(false) at a POLE ahead of any", x.worth(false), Checks.NO_LONG);
        due("rest(0)", x.rest(0), -1);
        told("whole(3, 0, 2)", x.whole(3, 0, 2), x, 1, 1);
        // parted() tells ahead of any at(), too
        x = four(2, 1, 1, 5, -7);
        told("parted(5, 0, 2)", x.parted(5, 0, 2), x, 1, 1);
    }

    private static void kept(DrawnWays x, String when) {
        due("worth(false) behind " + when, x.worth(false), 139);
        due("worth(true) behind " + when, x.worth(true), 420);
        for (int k = 0; k < 4; k++) {
            due("rest(" + k + ") behind " + when, Math.floorMod(x.rest(k) * 420L - 139, (long) PRIMES[k]), 0);
        }
        for (int k : new int[] {-1, 4, 5, MIN, MAX}) {
            due("rest(" + k + ") behind " + when, x.rest(k), -1);
        }
    }

    private static void behindRefusedCalls() {
        DrawnWays x = four(2, 1, 2, 3, -6);
        told("at(2)", x.at(2), x, 139, 420);
        kept(x, "itself");
        no("at(0)", x.at(0), x, 2);
        kept(x, "at() of 2");
        no("parted(7, 0, 2)", x.parted(7, 0, 2), x, 1);
        kept(x, "parted() of 1");
        no("whole(3, 0, 4)", x.whole(3, 0, 4), x, 2);
        kept(x, "whole() of 2");
        x.number(0, 2);
        no("at(2)", x.at(2), x, 8);
        kept(x, "at() of 8");
        tell(x, 1, 1, 5, -7);
        no("at(2)", x.at(2), x, 5);
        due("pole()", x.pole(), 3);
        kept(x, "a POLE");
        tell(x, 499, 331, 167, -997);
        no("at(2)", x.at(2), x, 6);
        kept(x, "what is LOST");
        due("pole() behind what is LOST", x.pole(), -1);
        meet(x, 0, 0);
        no("parted of two ENDS", x.parted(3, 0, 2), x, 1);
        kept(x, "another MEETING");
        x.letter(0, 7);
        x.drawings(2);
        kept(x, "drawings()");
        x.book(0);
        kept(x, "a faulty book");
        Checks.book(x, "half e p 1 1;own g 1;meet e p g by 1 a");
        kept(x, "another book");
        no("at(2) without a MEETING", x.at(2), x, 1);
        kept(x, "at() of 1");
        meet(x, 0, 2);
        no("at(2) of ENDS that aren't even", x.at(2), x, 7);
        kept(x, "at() of 7");
        meet(x, 0, 1, 2);
        told("at(1)", x.at(1), x, x.worth(false), 1);
    }

    // Each MEETING has SIGNS of its own: of one POINT -1 if e stands ahead of p among the ENDS (one join is of a
    // lesser LEG p, and the joins don't cross), else 1 (of a lesser LEG p, and they cross).
    private static void signsOfParts() {
        DrawnWays x = met("half e p 3 1;own g 2;meet e p g by 2 b", 0, 1, 2, 2);
        told("e, g, p and p, g, e", x.parted(5, 1, 2), x, -4, 1);
        // 0 - 5, 1 - 7 (of a lesser p) and 4 - 8: each two cross.
        told("JOINED", x.whole(5, 1, 2), x, 4, 1);
        told("e, g, p and p, g, e", x.parted(9, 1, 2), x, -4, 1);
        told("JOINED", x.whole(9, 1, 2), x, 4, 1);
        told("both DRAWINGS, by 0 less 3 times 3", x.at(2), x, -8, 9);
        meet(x, 1, 0, 2, 2);
        told("p, g, e and e, g, p", x.parted(5, 0, 2), x, -4, 1);
        // 0 - 4 and 5 - 7 (both of a lesser p), and 1 - 8: the first and the last cross.
        told("JOINED", x.whole(5, 0, 2), x, -4, 1);
        meet(x, 0, 1, 0, 1);
        told("e, p, g and e, p, g", x.parted(3, 2, 2), x, 4, 1);
        told("JOINED", x.whole(3, 2, 2), x, 4, 1);
        told("e, p, g and p, e, g", x.parted(9, 2, 2), x, -4, 1);
        told("JOINED", x.whole(9, 2, 2), x, -4, 1);
        told("both DRAWINGS take each other away", x.at(2), x, 0, 1);
    }

    private static void knownRests() {
        DrawnWays x = met("own f 1;meet f f f by -5 a", 0, 0, 0);
        told("at(1)", x.at(1), x, -5, 1);
        for (int k = 0; k < 4; k++) {
            due("rest(" + k + ") of -5", x.rest(k), PRIMES[k] - 5);
        }
        x = met("own f 1;meet f f f f by 99 a", 0, 0, 0, 0);
        x.letter(0, 99);
        told("at(1)", x.at(1), x, 9801, 1);
        for (int k = 0; k < 4; k++) {
            due("rest(" + k + ") of 9801", x.rest(k), 9801);
        }
        // 1/(0 - 1), three times, by 99 times 99 twice: more than a prime.
        x = met("own f 1;meet f f f by 99 a", 0, 0, 0, 0);
        x.letter(0, 99);
        told("at(2)", x.at(2), x, -288178803, 1);
        for (int k = 0; k < 4; k++) {
            due("rest(" + k + ")", x.rest(k), Math.floorMod(-288178803L, (long) PRIMES[k]));
        }
        // -3 by 4, as 4 times 250,000 is 1,000,003 less 3
        x = met("own f 1;own g 2;meet f f g by 1 a;meet f f g by 1 b", 0, 0, 0, 0);
        x.letter(1, 0);
        tell(x, 0, 0, 0, 0);
        told("at(2): three times 1 by -4", x.at(2), x, -3, 4);
        due("rest(0)", x.rest(0), 250000);
    }
}
