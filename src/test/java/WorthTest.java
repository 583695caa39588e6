/** Promises 18 to 25: numbers, letters, worths, poles, and worths in parts. */
final class WorthTest {
    private static final Checks CHECKS = new Checks("WorthTest");
    private static final String THREES = "own f 2; meet f f f by 1 a";

    public static void main(String[] args) {
        numbers();
        letters();
        worthOfFour();
        refusedAt();
        poles();
        poleAtZero();
        lost();
        justWithin();
        parts();
        refusedParts();
        sides();
        polesOfParts();
        noRoomInParts();
        lostParts();
        keptWorth();
        CHECKS.end();
    }

    private static void due(String call, long got, long want) {
        CHECKS.due(call, got, want);
    }

    private static void told(String call, boolean answer, DrawnWays x, long top, long bottom) {
        CHECKS.dueTold(call, answer, x, top, bottom);
    }

    private static void refused(String call, boolean answer, DrawnWays x, int why) {
        CHECKS.dueRefused(call, answer, x, why);
    }

    private static void tell(DrawnWays x, int... numbers) {
        for (int i = 0; i < numbers.length; i++) {
            CHECKS.due("number(" + i + ", " + numbers[i] + ")", x.number(i, numbers[i]), true);
        }
    }

    private static DrawnWays four() {
        DrawnWays x = Checks.with(THREES);
        x.meeting(0, 0, 0, 0, -1, 0);
        return x;
    }

    // Promise 18
    private static void numbers() {
        DrawnWays x = Checks.with(THREES);
        refused("number without a MEETING", x.number(0, 0), x, 1);
        refused("number without both", x.number(0, 1000), x, 1);
        x.meeting(0, 0, 0, -1, 0, 0);
        told("at(1): NUMBERS are 0 until told", x.at(1), x, 1, 1);
        refused("number(3, 0)", x.number(3, 0), x, 1);
        refused("number(-1, 0)", x.number(-1, 0), x, 1);
        refused("number(3, 1000)", x.number(3, 1000), x, 1);
        refused("number(2, 1000)", x.number(2, 1000), x, 2);
        refused("number(2, -1000)", x.number(2, -1000), x, 2);
        refused("number(2, min)", x.number(2, Integer.MIN_VALUE), x, 2);
        told("refused NUMBERS aren't taken", x.at(1), x, 1, 1);
        tell(x, 999, -999, 0);
        told("the bounds", x.at(1), x, 1, 1);
        tell(x, 999, -998, 0);
        refused("at(1) with 1 left", x.at(1), x, 8);
    }

    // Promise 19
    private static void letters() {
        lettersWithoutBook();
        DrawnWays x = Checks.with("own f 1; meet f f f by 3 a; meet f f f by 5 b; meet f f f by 7 c");
        x.meeting(0, 0, 0, -1, 0, 0);
        told("LETTERS 1", x.at(1), x, 15, 1);
        CHECKS.due("letter(0, 99)", x.letter(0, 99), true);
        told("a is 99", x.at(1), x, 309, 1);
        CHECKS.due("letter(1, -99)", x.letter(1, -99), true);
        told("b is -99", x.at(1), x, 297 - 495 + 7, 1);
        CHECKS.due("letter(2, 0)", x.letter(2, 0), true);
        told("c is 0", x.at(1), x, -198, 1);
        refused("letter(3, 1)", x.letter(3, 1), x, 1);
        refused("letter(-1, 100)", x.letter(-1, 100), x, 1);
        refused("letter(0, 100)", x.letter(0, 100), x, 2);
        refused("letter(0, -100)", x.letter(0, -100), x, 2);
        refused("letter(0, min)", x.letter(0, Integer.MIN_VALUE), x, 2);
        told("refused LETTERS aren't taken", x.at(1), x, -198, 1);
        x.meeting(0, 0, 0, -1, 0, 0);
        told("LETTERS stay with another MEETING", x.at(1), x, -198, 1);
        Checks.book(x, "own f 0");
        told("and with a faulty book", x.at(1), x, -198, 1);
        CHECKS.due("letter(0, 2) behind a faulty book", x.letter(0, 2), true);
        told("the BOOK that stays has its LETTERS", x.at(1), x, 6 - 495, 1);
        Checks.book(x, "own f 1; meet f f f by 3 a");
        x.meeting(0, 0, 0, -1, 0, 0);
        told("a new BOOK has LETTERS 1", x.at(1), x, 3, 1);
    }

    // Without a BOOK there is no LETTER, and that comes ahead of a number out of bounds.
    private static void lettersWithoutBook() {
        DrawnWays x = new DrawnWays();
        refused("letter(0, 0) without a BOOK", x.letter(0, 0), x, 1);
        for (int l = -1; l < 4; l++) {
            refused("letter(" + l + ", 5) without a BOOK", x.letter(l, 5), x, 1);
            refused("letter(" + l + ", 100) without a BOOK", x.letter(l, 100), x, 1);
        }
        Checks.feed(x, "own f 1");
        refused("letter(0, 5) with a TAPE alone", x.letter(0, 5), x, 1);
        x.book(3);
        due("book(3)", x.trouble(), 4);
        due("where()", x.where(), 3);
        refused("letter(0, 5) behind a faulty first book", x.letter(0, 5), x, 1);
        due("where() behind it", x.where(), -1);
        due("fault() stays", x.fault(), 1);
        Checks.book(x, "own f 1; meet f f f by 3 a");
        x.meeting(0, 0, 0, -1, 0, 0);
        told("LETTERS are 1 then", x.at(1), x, 3, 1);
        CHECKS.due("letter(0, 5) with a BOOK", x.letter(0, 5), true);
        due("trouble()", x.trouble(), 0);
        told("and is taken", x.at(1), x, 15, 1);
        CHECKS.due("a BOOK without RULES has LETTERS", Checks.with("own f 1").letter(2, -99), true);
    }

    // Promises 20, 23, 24: 1/(s-4) + 1/(t-4) + 1/(u-4)
    private static void worthOfFour() {
        DrawnWays x = four();
        tell(x, 1, 2, 3, -6);
        told("at(2)", x.at(2), x, 139, 420);
        told("at(1): no drawing", x.at(1), x, 0, 1);
        told("at(3): no drawing without loops", x.at(3), x, 0, 1);
        tell(x, 5, -5, 7, -7);
        // flows 0, 12, -2: a pole at the third
        refused("a flow of -2", x.at(2), x, 5);
        due("pole()", x.pole(), 9);
        tell(x, 5, -5, 8, -8);
        told("at(2) of flows 0, 13, -3", x.at(2), x, -165 + 4 + 132, 660);
        x.drawings(2);
        told("with THE LIST ready", x.at(2), x, x.worth(false), x.worth(true));
        due("THE LIST stays", x.count(4), 2);
        told("another order", x.at(3), x, 0, 1);
        due("THE LIST still stays", x.count(4), 2);
    }

    private static void refusedAt() {
        DrawnWays x = Checks.with("half e p 3 1; own g 2; meet e p g by 2 b");
        refused("at(7) without a MEETING", x.at(7), x, 1);
        x.meeting(0, 2, -1, 0, 0, 0);
        tell(x, 1, 1);
        refused("at(0)", x.at(0), x, 2);
        refused("at(4)", x.at(4), x, 2);
        refused("at(min)", x.at(Integer.MIN_VALUE), x, 2);
        refused("ENDS that aren't even come before NUMBERS", x.at(1), x, 7);
        x.meeting(0, 1, 2, -1, 0, 0);
        tell(x, 1, 1, 1);
        refused("NUMBERS", x.at(1), x, 8);
        due("worth() ahead of any", x.worth(false), Checks.NO_LONG);
        due("rest() ahead of any", x.rest(0), -1);
        tell(x, 1, 1, -2);
        told("at(1)", x.at(1), x, x.drawings(1) == 1 ? 2L * x.drawing(0, 2) : 0, 1);
    }

    // Promise 25
    private static void poles() {
        DrawnWays x = four();
        tell(x, 1, 1, 5, -7);
        refused("at(2)", x.at(2), x, 5);
        due("pole()", x.pole(), 3);
        due("pole() again", x.pole(), 3);
        due("count() leaves it", x.count(0), 1);
        due("pole() still", x.pole(), 3);
        tell(x, 1, 5, 1, -7);
        due("pole() behind number()", x.pole(), -1);
        refused("at(2) at another pole", x.at(2), x, 5);
        due("pole() there", x.pole(), 5);
        tell(x, 1, 1, -3, 1);
        refused("two poles", x.at(2), x, 5);
        due("the first by DRAWING", x.pole(), 3);
        tell(x, 1, -3, 1, 1);
        refused("two poles, the first not a pole of 3", x.at(2), x, 5);
        due("a flow of -2 is one, too", x.pole(), 3);
        x.drawings(2);
        due("pole() behind a call that wasn't refused", x.pole(), -1);
    }

    // A pole is one whatever the letters are.
    private static void poleAtZero() {
        DrawnWays x = four();
        tell(x, 1, 1, 5, -7);
        x.letter(0, 0);
        refused("at(2) with a letter of 0", x.at(2), x, 5);
        due("pole()", x.pole(), 3);
    }

    // Denominators beyond 500,000,000 are lost; poles come before.
    private static void lost() {
        DrawnWays x = four();
        tell(x, 499, 331, 167, -997);
        refused("at(2)", x.at(2), x, 6);
        // 86119 by 859446900
        tell(x, 99, 48, 124, -271);
        refused("at(2) with a denominator just beyond", x.at(2), x, 6);
        // A fraction has the rests of the first three primes by chance, and not that of the fourth.
        tell(x, 748, 69, -27, -790);
        refused("at(2) that the fourth prime finds out", x.at(2), x, 6);
        tell(x, 317, -237, 62, -142);
        refused("at(2) that it finds out, too", x.at(2), x, 6);
        tell(x, 997, -995, 991, -993);
        refused("at(2) at a pole", x.at(2), x, 5);
        DrawnWays z = Checks.with("own f 1; own g 99; own h 98; meet f g h by 99 a");
        z.meeting(0, 1, 0, 1, -1, 0);
        CHECKS.due("letter", z.letter(0, 99), true);
        // 99 to the fourth power by 98 times 98, twice
        told("numerators within the bound", z.at(2), z, -96059601, 4802);
    }

    // Without flows and with HEAVY 1 each join divides by -1: 75 * 79 * 80 * 80 + 2 * (160 * 95) squared.
    private static void justWithin() {
        DrawnWays x = Checks.with("own f 1;own g 1;own h 1;own k 1;meet f f g by 75 a;meet h h g by 80 b;"
                + "meet f h k by 80 c;meet k f h by 80 c");
        x.meeting(0, 0, 2, 2, -1, 0);
        x.letter(0, 79);
        x.letter(1, 80);
        x.letter(2, 95);
        told("a numerator of 500,000,000", x.at(2), x, -500000000, 1);
        x.letter(1, 81);
        refused("one beyond", x.at(2), x, 6);
        due("worth stays", x.worth(false), -500000000);
        x.letter(0, -79);
        told("within again", x.at(2), x, 75L * 79 * 80 * 81 - 2L * 15200 * 15200, 1);
    }

    // Promises 21 and 22
    private static void parts() {
        DrawnWays x = four();
        tell(x, 1, 1, 5, -7);
        refused("at(2)", x.at(2), x, 5);
        told("parted(3, 0, 2)", x.parted(3, 0, 2), x, 1, 1);
        told("whole(3, 0, 2)", x.whole(3, 0, 2), x, 1, 1);
        told("whole(9, 0, 2)", x.whole(9, 0, 2), x, 1, 1);
        told("parted(5, 0, 3)", x.parted(5, 0, 3), x, 0, 1);
        told("whole(5, 0, 3)", x.whole(5, 0, 3), x, 0, 1);
        DrawnWays y = Checks.with("pair u v 3 1; own g 2; meet u v g by 2 b; meet g g g by 5 a");
        y.meeting(0, 1, 2, 2, -1, 0);
        tell(y, 1, 2, 4, -7);
        told("parted at g", y.parted(3, 2, 2), y, 10, 1);
        told("whole at g", y.whole(3, 2, 2), y, 10, 1);
        // u and g come in: the leg on their side is of the foe of what goes out.
        told("parted at v", y.parted(5, 1, 2), y, 4, 1);
        told("whole at v", y.whole(5, 1, 2), y, 4, 1);
        refused("parted at u", y.parted(5, 0, 2), y, 7);
        told("whole at u: none such", y.whole(5, 0, 2), y, 0, 1);
        told("whole at g on that side: none such", y.whole(5, 2, 2), y, 0, 1);
        DrawnWays z = Checks.with("own f 2; meet f f f by 3 a; meet f f f f by 5 b");
        z.meeting(0, 0, 0, 0, 0, -1);
        tell(z, 1, 2, 3, 4, -10);
        told("five ENDS: parted", z.parted(7, 0, 2), z, 15, 1);
        told("five ENDS: whole", z.whole(7, 0, 2), z, 15, 1);
        told("five ENDS: whole, the other way", z.whole(3, 0, 2), z, 15, 1);
        // Orders 2 and 1: 27 (1/(9-4) + 1/(16-4) + 1/(25-4)) at the near side of three ends.
        told("five ENDS: parted in three", z.parted(7, 0, 3), z, 1251, 140);
        told("five ENDS: whole of order 3", z.whole(7, 0, 3), z, 0, 1);
    }

    private static void refusedParts() {
        DrawnWays x = Checks.with("half e p 3 1; own g 2; meet e p g by 2 b");
        refused("parted without a MEETING", x.parted(3, 0, 2), x, 1);
        refused("whole without a MEETING", x.whole(3, 0, 9), x, 1);
        x.meeting(0, 1, 2, 2, -1, 0);
        tell(x, 1, 0, 0, 0);
        refused("parted: a wrong KIND, a wrong order", x.parted(3, 3, 9), x, 1);
        refused("whole: a wrong KIND, a wrong order", x.whole(3, -1, 9), x, 1);
        int[] orders = {1, 4, 0, -2, Integer.MAX_VALUE, Integer.MIN_VALUE};
        for (int order : orders) {
            refused("parted of order " + order, x.parted(3, 2, order), x, 2);
            refused("whole of order " + order, x.whole(3, 2, order), x, 2);
        }
        refused("parted: a smaller MEETING isn't even", x.parted(3, 0, 2), x, 7);
        refused("whole: that is of no matter there", x.whole(3, 0, 2), x, 8);
        refused("parted: NUMBERS", x.parted(3, 2, 2), x, 8);
        x.meeting(0, 0, 2, 2, -1, 0);
        tell(x, 1, 0, 0, 0);
        refused("parted: the MEETING isn't even", x.parted(3, 2, 2), x, 7);
        refused("whole: the MEETING isn't even", x.whole(3, 2, 2), x, 7);
    }

    private static void sides() {
        DrawnWays x = four();
        int[] wrong = {0, 1, 2, 6, 7, 8, 11, 13, 14, 15, 16, 17, 19, 35, -1, -13, Integer.MAX_VALUE, Integer.MIN_VALUE,
            Integer.MIN_VALUE + 3};
        for (int side : wrong) {
            refused("parted(" + side + ", 0, 2)", x.parted(side, 0, 2), x, 1);
            refused("whole(" + side + ", 0, 2)", x.whole(side, 0, 2), x, 1);
        }
        for (int side : new int[] {3, 5, 9}) {
            told("parted(" + side + ", 0, 2)", x.parted(side, 0, 2), x, 1, 1);
        }
        x.meeting(0, 0, 0, -1, 0, 0);
        refused("three ENDS have no SIDE", x.parted(3, 0, 2), x, 1);
        x.meeting(0, 0, 0, 0, 0, 0);
        CHECKS.due("six ENDS", x.parted(33, 0, 2), true);
        CHECKS.due("six ENDS, four in", x.parted(39, 0, 3), true);
        refused("six ENDS, five in", x.parted(47, 0, 2), x, 1);
    }

    private static void polesOfParts() {
        DrawnWays x = Checks.with(THREES);
        x.meeting(0, 0, 0, 0, 0, -1);
        tell(x, 1, 4, 3, 1, -9);
        // ENDS 0, 2, 3 and one more: 1, 3, 1, -5: a pole where 1 and 1 go together, that is 0 and 2 of the part.
        refused("parted(13, 0, 3)", x.parted(13, 0, 3), x, 5);
        due("pole() in the part", x.pole(), 5);
        // The others are 3, 5, -13 and one more of 5: 1/60 + 1/96 + 1/60.
        tell(x, 4, 1, 3, 5, -13);
        told("parted(3, 0, 3)", x.parted(3, 0, 3), x, 7, 160);
        tell(x, 4, 1, 3, -1, -7);
        refused("a pole of the others", x.parted(3, 0, 3), x, 5);
        due("pole() in the others", x.pole(), 3);
        told("at(1) of the MEETING: the pole is gone", x.at(1), x, 0, 1);
    }

    private static void noRoomInParts() {
        // 204 drawings of order 3 are no matter: parts have orders 1 and 2 here.
        DrawnWays y = Checks.with("own d 1;own e 1;meet d d e by 1 a;meet e d d by 1 a;meet e e e by 1 a;meet d d e by 1 a");
        y.meeting(1, 0, 0, -1, 0, 0);
        tell(y, 1, 1, -3);
        refused("NUMBERS come before room", y.at(3), y, 8);
        tell(y, 1, 1, -2);
        refused("no room", y.at(3), y, 3);
    }

    private static void lostParts() {
        String rule = ";meet f f f by 99 a";
        DrawnWays x = Checks.with("own f 1" + rule + rule + rule + rule);
        x.meeting(0, 0, 0, 0, -1, 0);
        told("letters 1", x.parted(3, 0, 2), x, 396L * 396, 1);
        told("whole likewise", x.whole(3, 0, 2), x, 396L * 396, 1);
        x.letter(0, 56);
        told("just within", x.parted(3, 0, 2), x, 22176L * 22176, 1);
        told("whole just within", x.whole(3, 0, 2), x, 22176L * 22176, 1);
        x.letter(0, 57);
        refused("beyond 500,000,000", x.parted(3, 0, 2), x, 6);
        refused("whole beyond", x.whole(3, 0, 2), x, 6);
        x.letter(0, -57);
        refused("beyond without its sign", x.whole(5, 0, 2), x, 6);
    }

    // Promise 23: what was told stays through refused calls, meetings and books.
    private static void keptWorth() {
        DrawnWays x = four();
        tell(x, 1, 2, 3, -6);
        told("at(2)", x.at(2), x, 139, 420);
        int rest = x.rest(2);
        tell(x, 1, 1, 5, -7);
        refused("at(2) at a pole", x.at(2), x, 5);
        due("worth stays", x.worth(false), 139);
        refused("at(5)", x.at(5), x, 2);
        due("worth stays by", x.worth(true), 420);
        due("rest stays", x.rest(2), rest);
        x.meeting(0, 0, -1, 0, 0, 0);
        due("worth stays through meeting()", x.worth(false), 139);
        Checks.book(x, "own g 1");
        due("worth stays through book()", x.worth(true), 420);
        due("rest stays through book()", x.rest(2), rest);
    }
}
