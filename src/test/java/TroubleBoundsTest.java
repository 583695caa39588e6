/** Terms V and promises 26 and 27: the number of each refused call, and which of two comes first. */
final class TroubleBoundsTest {
    private static final Checks CHECKS = new Checks("TroubleBoundsTest");
    private static final String THREES = "own f 2;meet f f f by 1 a";
    private static final String CHARGES = "half e p 3 1;own g 2;meet e p g by 2 b";
    private static final String BEYOND = "own d 1;own e 1;meet d d e by 1 a;meet e d d by 1 a;"
            + "meet e e e by 1 a;meet d d e by 1 a";
    private static final int MAX = Integer.MAX_VALUE;
    private static final int MIN = Integer.MIN_VALUE;

    public static void main(String[] args) {
        books();
        meetings();
        drawings();
        numbers();
        letters();
        worths();
        parts();
        wholes();
        poleBeforeLost();
        callsThatSayNothing();
        callsThatSetNothing();
        counts();
        CHECKS.end();
    }

    private static void refused(String call, int got, DrawnWays x, int why) {
        CHECKS.due(call, got, -1);
        CHECKS.due("trouble() of " + call, x.trouble(), why);
        CHECKS.due("trouble() of " + call + " again", x.trouble(), why);
    }

    private static void refused(String call, boolean got, DrawnWays x, int why) {
        CHECKS.dueRefused(call, got, x, why);
    }

    private static DrawnWays met(String text, int... kinds) {
        DrawnWays x = Checks.with(text);
        meet(x, kinds);
        return x;
    }

    private static void meet(DrawnWays x, int... kinds) {
        CHECKS.due("meeting", Checks.meet(x, kinds), kinds.length);
        CHECKS.due("its trouble()", x.trouble(), 0);
    }

    private static void tell(DrawnWays x, int... numbers) {
        for (int i = 0; i < numbers.length; i++) {
            CHECKS.due("number(" + i + ", " + numbers[i] + ")", x.number(i, numbers[i]), true);
            CHECKS.due("its trouble()", x.trouble(), 0);
        }
    }

    // book: 2; 4
    private static void books() {
        DrawnWays x = new DrawnWays();
        refused("book(-1)", x.book(-1), x, 2);
        refused("book(1)", x.book(1), x, 2);
        refused("book(0)", x.book(0), x, 4);
        Checks.feed(x, "?");
        refused("book(21) of a faulty text", x.book(21), x, 2);
        CHECKS.due("fault() is that of book(0)", x.fault(), 1);
        CHECKS.due("where()", x.where(), -1);
        refused("book(20) of it", x.book(20), x, 4);
        CHECKS.due("where()", x.where(), 0);
        refused("book(1) of the empty TAPE", x.book(1), x, 2);
        Checks.feed(x, "own f 1");
        CHECKS.due("book(7)", x.book(7), 1);
        CHECKS.due("trouble()", x.trouble(), 0);
    }

    // meeting: 1; 2
    private static void meetings() {
        DrawnWays x = new DrawnWays();
        refused("no BOOK", x.meeting(0, 0, -1, -1, -1, -1), x, 1);
        refused("no BOOK and no END", x.meeting(-1, 0, 0, 0, 0, 0), x, 1);
        refused("no BOOK and one END", x.meeting(0, -1, 0, 0, 0, 0), x, 1);
        x.book(0);
        refused("no BOOK behind a faulty one", x.meeting(-1, 0, 0, 0, 0, 0), x, 1);
        Checks.book(x, THREES);
        CHECKS.due("trouble() of a book", x.trouble(), 0);
        refused("no END", x.meeting(-1, 0, 0, 0, 0, 0), x, 2);
        refused("one END", x.meeting(0, -1, 0, 0, 0, 0), x, 2);
        refused("one END of no KIND", x.meeting(1, -1, 0, 0, 0, 0), x, 1);
        refused("one END of no KIND below", x.meeting(-2, -1, 0, 0, 0, 0), x, 1);
        refused("two ENDS, the second of no KIND", x.meeting(0, 1, -1, 0, 0, 0), x, 1);
        refused("six ENDS, the sixth of no KIND", x.meeting(0, 0, 0, 0, 0, -2), x, 1);
        meet(x, 0, 0);
        refused("one END again", x.meeting(0, -1, -1, -1, -1, -1), x, 2);
    }

    // drawings: 1; 2; 7; 3
    private static void drawings() {
        DrawnWays x = new DrawnWays();
        refused("no BOOK", x.drawings(1), x, 1);
        refused("no BOOK, no order", x.drawings(0), x, 1);
        Checks.book(x, CHARGES);
        refused("no MEETING", x.drawings(1), x, 1);
        refused("no MEETING, no order", x.drawings(4), x, 1);
        meet(x, 0, 2);
        refused("no order, ENDS that aren't even", x.drawings(4), x, 2);
        refused("no order below", x.drawings(MIN), x, 2);
        for (int order = 1; order <= 3; order++) {
            refused("ENDS that aren't even", x.drawings(order), x, 7);
        }
        meet(x, 0, 0);
        refused("MARKS", x.drawings(1), x, 7);
        x = met(BEYOND, 1, 0, 0);
        refused("no room", x.drawings(3), x, 3);
        refused("no order", x.drawings(4), x, 2);
        CHECKS.due("drawings(1)", x.drawings(1), 3);
        CHECKS.due("trouble()", x.trouble(), 0);
        refused("no room", x.drawings(3), x, 3);
        Checks.book(x, THREES);
        refused("no MEETING behind another book", x.drawings(1), x, 1);
    }

    // number: 1; 2
    private static void numbers() {
        DrawnWays x = new DrawnWays();
        refused("no BOOK", x.number(0, 0), x, 1);
        refused("no BOOK, out of bounds", x.number(0, 1000), x, 1);
        Checks.book(x, THREES);
        refused("no MEETING", x.number(0, 0), x, 1);
        refused("no MEETING, out of bounds", x.number(0, -1000), x, 1);
        meet(x, 0, 0, 0);
        refused("no END", x.number(3, 0), x, 1);
        refused("no END, out of bounds", x.number(3, 1000), x, 1);
        refused("no END below, out of bounds", x.number(-1, MAX), x, 1);
        refused("out of bounds", x.number(2, 1000), x, 2);
        refused("out of bounds below", x.number(0, MIN), x, 2);
        tell(x, 999, -999, 0);
        meet(x, 0, 0);
        refused("an END that was", x.number(2, 0), x, 1);
    }

    // letter: 1; 2
    private static void letters() {
        DrawnWays x = new DrawnWays();
        refused("no BOOK", x.letter(0, 0), x, 1);
        refused("no BOOK, out of bounds", x.letter(0, 100), x, 1);
        refused("no BOOK, no LETTER", x.letter(3, 0), x, 1);
        Checks.book(x, THREES);
        refused("no LETTER", x.letter(3, 0), x, 1);
        refused("no LETTER, out of bounds", x.letter(3, 100), x, 1);
        refused("no LETTER below, out of bounds", x.letter(-1, MIN), x, 1);
        refused("out of bounds", x.letter(2, 100), x, 2);
        refused("out of bounds below", x.letter(1, -100), x, 2);
        CHECKS.due("a LETTER that no RULE has, without a MEETING", x.letter(2, 99), true);
        CHECKS.due("trouble()", x.trouble(), 0);
    }

    // at: 1; 2; 7; 8; 3; 5; 6
    private static void worths() {
        DrawnWays x = new DrawnWays();
        refused("no BOOK", x.at(1), x, 1);
        refused("no BOOK, no order", x.at(0), x, 1);
        Checks.book(x, CHARGES);
        refused("no MEETING, no order", x.at(4), x, 1);
        meet(x, 0, 2);
        tell(x, 1, 1);
        refused("no order, ENDS that aren't even, NUMBERS", x.at(4), x, 2);
        refused("ENDS that aren't even, NUMBERS", x.at(1), x, 7);
        tell(x, 0, 0);
        refused("ENDS that aren't even", x.at(1), x, 7);
        meet(x, 0, 1);
        tell(x, 1, 1);
        refused("no order, NUMBERS", x.at(-1), x, 2);
        refused("NUMBERS", x.at(1), x, 8);
        x = met(BEYOND, 1, 0, 0);
        tell(x, 0, 0, 1);
        refused("NUMBERS, no room", x.at(3), x, 8);
        refused("no order, no room", x.at(4), x, 2);
        tell(x, 0, 0, 0);
        refused("no room", x.at(3), x, 3);
        x = met(THREES, 0, 0, 0, 0);
        tell(x, 1, 1, 5, -6);
        refused("NUMBERS, a POLE", x.at(2), x, 8);
        CHECKS.due("pole()", x.pole(), -1);
        tell(x, 1, 1, 5, -7);
        refused("no order, a POLE", x.at(0), x, 2);
        refused("a POLE", x.at(2), x, 5);
        tell(x, 499, 331, 167, -996);
        refused("NUMBERS, LOST", x.at(2), x, 8);
        tell(x, 499, 331, 167, -997);
        refused("LOST", x.at(2), x, 6);
        refused("no order, LOST", x.at(MAX), x, 2);
    }

    // parted: 1 (SIDE, KIND, too); 2; 7 (also of a smaller MEETING); 8; 3; 5; 6
    private static void parts() {
        DrawnWays x = new DrawnWays();
        refused("no BOOK", x.parted(3, 0, 2), x, 1);
        refused("no BOOK, no order", x.parted(3, 0, 1), x, 1);
        Checks.book(x, CHARGES);
        refused("no MEETING", x.parted(3, 2, 2), x, 1);
        refused("no MEETING, no order", x.parted(3, 2, 4), x, 1);
        meet(x, 0, 2, 2, 2);
        tell(x, 1, 0, 0, 0);
        refused("no SIDE, no order, ENDS that aren't even, NUMBERS", x.parted(1, 2, 1), x, 1);
        refused("no KIND, no order, ENDS that aren't even, NUMBERS", x.parted(3, 3, 1), x, 1);
        refused("no SIDE, ENDS that aren't even", x.parted(2, 2, 2), x, 1);
        refused("no KIND, ENDS that aren't even", x.parted(3, -1, 2), x, 1);
        refused("no order, ENDS that aren't even, NUMBERS", x.parted(3, 2, 4), x, 2);
        refused("ENDS that aren't even, NUMBERS", x.parted(3, 2, 2), x, 7);
        // e and g with e or p: the smaller MEETING of p is even, that of the others isn't.
        refused("ENDS that aren't even, a smaller MEETING that is", x.parted(3, 1, 2), x, 7);
        tell(x, 0, 0, 0, 0);
        refused("ENDS that aren't even", x.parted(3, 2, 2), x, 7);
        meet(x, 0, 1, 2, 2);
        tell(x, 1, 0, 0, 0);
        refused("no order, a smaller MEETING, NUMBERS", x.parted(3, 0, 1), x, 2);
        refused("a smaller MEETING, NUMBERS", x.parted(3, 0, 2), x, 7);
        refused("a smaller MEETING the other way, NUMBERS", x.parted(5, 0, 2), x, 7);
        refused("NUMBERS", x.parted(5, 1, 2), x, 8);
        refused("NUMBERS", x.parted(3, 2, 2), x, 8);
        tell(x, 0, 0, 0, 0);
        refused("a smaller MEETING", x.parted(3, 0, 2), x, 7);
        refused("a smaller MEETING", x.parted(5, 0, 3), x, 7);
        refused("a smaller MEETING", x.parted(5, 2, 3), x, 7);
        CHECKS.due("none of these", x.parted(5, 1, 2), true);
        CHECKS.due("trouble()", x.trouble(), 0);
        x = met(THREES, 0, 0, 0, 0, 0);
        tell(x, 1, 1, 5, -7, 1);
        refused("no SIDE, a POLE", x.parted(6, 0, 3), x, 1);
        refused("no order, a POLE", x.parted(7, 0, 1), x, 2);
        refused("NUMBERS, a POLE", x.parted(7, 0, 3), x, 8);
        tell(x, 1, 1, 5, -7, 0);
        refused("a POLE", x.parted(7, 0, 3), x, 5);
        tell(x, 499, 331, 167, -997, 1);
        refused("NUMBERS, LOST", x.parted(7, 0, 3), x, 8);
        tell(x, 499, 331, 167, -997, 0);
        refused("LOST", x.parted(7, 0, 3), x, 6);
        refused("no order, LOST", x.parted(7, 0, 0), x, 2);
        CHECKS.due("order 2", x.parted(7, 0, 2), true);
        CHECKS.due("trouble()", x.trouble(), 0);
    }

    // whole: 1; 2; 7; 8; 3; 5; 6
    private static void wholes() {
        DrawnWays x = new DrawnWays();
        refused("no BOOK", x.whole(3, 0, 2), x, 1);
        refused("no BOOK, no order", x.whole(3, 0, 1), x, 1);
        Checks.book(x, CHARGES);
        refused("no MEETING, no order", x.whole(3, 2, 4), x, 1);
        meet(x, 0, 2, 2, 2);
        tell(x, 1, 0, 0, 0);
        refused("no SIDE, no order, ENDS that aren't even, NUMBERS", x.whole(1, 2, 1), x, 1);
        refused("no KIND, no order, ENDS that aren't even, NUMBERS", x.whole(3, 3, 1), x, 1);
        refused("no SIDE, ENDS that aren't even", x.whole(15, 2, 2), x, 1);
        refused("no KIND, ENDS that aren't even", x.whole(3, 3, 2), x, 1);
        refused("no order, ENDS that aren't even, NUMBERS", x.whole(3, 2, 4), x, 2);
        refused("ENDS that aren't even, NUMBERS", x.whole(3, 2, 2), x, 7);
        meet(x, 0, 1, 2, 2);
        tell(x, 1, 0, 0, 0);
        refused("no SIDE, NUMBERS", x.whole(7, 2, 2), x, 1);
        refused("no order, NUMBERS", x.whole(3, 2, 1), x, 2);
        refused("NUMBERS", x.whole(3, 2, 2), x, 8);
        refused("NUMBERS: smaller MEETINGS aren't asked", x.whole(3, 0, 2), x, 8);
        tell(x, 0, 0, 0, 0);
        CHECKS.due("smaller MEETINGS aren't asked", x.whole(3, 0, 2), true);
        CHECKS.due("trouble()", x.trouble(), 0);
        CHECKS.due("nothing is JOINED there", x.worth(false), 0);
        x = met("own f 1;meet f f f by 99 a;meet f f f by 99 b;meet f f f by 99 c", 0, 0, 0, 0);
        for (int l = 0; l < 3; l++) {
            CHECKS.due("letter", x.letter(l, 99), true);
        }
        tell(x, 1, 0, 0, 0);
        refused("NUMBERS, LOST", x.whole(3, 0, 2), x, 8);
        tell(x, 1, 0, 0, -1);
        refused("LOST", x.whole(3, 0, 2), x, 6);
        refused("no order, LOST", x.whole(3, 0, 5), x, 2);
        refused("no SIDE, LOST", x.whole(0, 0, 2), x, 1);
    }

    private static void poleBeforeLost() {
        DrawnWays x = met(THREES, 0, 0, 0, 0);
        // Flows 832, 666, -2: the first two alone are LOST, as 830 * 834 * 664 * 668 is beyond.
        tell(x, 749, 83, -83, -749);
        CHECKS.due("flows 832, 666, 0", x.at(2), false);
        CHECKS.due("trouble() of flows 832, 666, 0", x.trouble(), 6);
        tell(x, 748, 84, -82, -750);
        refused("flows 832, 666, -2: a POLE at the last DRAWING", x.at(2), x, 5);
        CHECKS.due("pole()", x.pole(), 9);
        // Parts: the first is LOST, the others have a POLE, and the other way round.
        x = met(THREES, 0, 0, 0, 0, 0, 0);
        tell(x, 499, 331, 167, 3, -1, -999);
        refused("the others have a POLE", x.parted(7, 0, 3), x, 5);
        CHECKS.due("pole()", x.pole(), 3);
        tell(x, 3, -1, -999, 499, 331, 167);
        refused("the first has a POLE", x.parted(7, 0, 3), x, 5);
        CHECKS.due("pole()", x.pole(), 3);
        tell(x, 3, 1, -999, 499, 331, 165);
        CHECKS.due("neither has: parts of four ENDS have no other of one POINT", x.parted(7, 0, 3), true);
        CHECKS.due("worth", x.worth(false), 0);
    }

    // All calls but eight leave trouble(), where() and pole() as they were, whatever they answer.
    private static void callsThatSayNothing() {
        for (int why = 0; why <= 8; why++) {
            DrawnWays x = troubled(why);
            int where = x.where();
            int pole = x.pole();
            CHECKS.due("where()", where, why == 4 ? 6 : -1);
            CHECKS.due("pole()", pole, why == 5 ? 3 : -1);
            for (int n = 0; n < 22; n++) {
                x.feed(n, 0, 0, 0, 0);
            }
            for (int i = -1; i <= 3; i++) {
                x.fault();
                x.kind(i, 0);
                x.rule(i, 0);
                x.drawing(i, 0);
                x.drawing(0, i * 9);
                x.point(i, i);
                x.joined(i, i * 20);
                if (i != 0) {
                    CHECKS.dueNoSide("side(" + i + ", 9)", x, i, 9);
                }
                x.pairings();
                x.same(i, 0, 0, 0, 0, 0, 0);
                x.same(0, i, 0, 0, 0, 0, 0);
                x.sum(i, 0, 0, false);
                x.byPairings(i, 0, 0, true);
                x.worth(i == 0);
                x.rest(i * 4);
                x.count(i * 9);
                CHECKS.due("trouble() of " + why, x.trouble(), why);
                CHECKS.due("where() of " + why, x.where(), where);
                CHECKS.due("pole() of " + why, x.pole(), pole);
            }
        }
    }

    // An object whose latest call was refused by this number.
    private static DrawnWays troubled(int why) {
        DrawnWays x = why == 3 ? met(BEYOND, 1, 0, 0) : why == 7 ? met(CHARGES, 0, 2) : met(THREES, 0, 0, 0, 0);
        if (why != 7) {
            x.drawings(why == 3 ? 1 : 2);
        }
        switch (why) {
            case 0 -> tell(x, 0);
            case 1 -> refused("number(9, 0)", x.number(9, 0), x, 1);
            case 2 -> refused("number(0, 1000)", x.number(0, 1000), x, 2);
            case 3 -> refused("drawings(3)", x.drawings(3), x, 3);
            case 4 -> refused("book", Checks.book(x, "own e 0"), x, 4);
            case 5 -> {
                tell(x, 1, 1, 5, -7);
                refused("at(2)", x.at(2), x, 5);
            }
            case 6 -> {
                tell(x, 499, 331, 167, -997);
                refused("at(2)", x.at(2), x, 6);
            }
            case 7 -> refused("drawings(1)", x.drawings(1), x, 7);
            default -> {
                tell(x, 1);
                refused("at(2)", x.at(2), x, 8);
            }
        }
        return x;
    }

    // Each of the eight that isn't refused sets 0, whatever was before; and where() and pole() are none then.
    private static void callsThatSetNothing() {
        for (int why = 0; why <= 8; why++) {
            for (int call = 0; call < 8; call++) {
                DrawnWays x = troubled(why);
                if (call > 1) {
                    Checks.book(x, THREES);
                    x.meeting(0, 0, 0, 0, -1, 0);
                    x.number(9, 9);
                }
                String name = "call " + call + " behind " + why;
                switch (call) {
                    case 0 -> CHECKS.due(name, Checks.book(x, THREES), 1);
                    case 1 -> CHECKS.due(name, x.letter(0, 5), true);
                    case 2 -> CHECKS.due(name, x.meeting(0, 0, 0, 0, -1, 0), 4);
                    case 3 -> CHECKS.due(name, x.drawings(2), 3);
                    case 4 -> CHECKS.due(name, x.number(0, 0), true);
                    case 5 -> CHECKS.due(name, x.at(2), true);
                    case 6 -> CHECKS.due(name, x.parted(3, 0, 2), true);
                    default -> CHECKS.due(name, x.whole(3, 0, 2), true);
                }
                CHECKS.due("trouble() of " + name, x.trouble(), 0);
                CHECKS.due("where() of " + name, x.where(), -1);
                CHECKS.due("pole() of " + name, x.pole(), -1);
            }
        }
    }

    private static void counts(DrawnWays x, String when, int... want) {
        for (int what = -3; what <= 12; what++) {
            CHECKS.due(when + ": count(" + what + ")", x.count(what), what < 0 || what > 7 ? -1 : want[what]);
        }
        for (int what : new int[] {MIN, MIN + 7, MAX, 256, 1 << 16, 100}) {
            CHECKS.due(when + ": count(" + what + ")", x.count(what), -1);
        }
    }

    // KINDS, RULES, ENDS, DRAWINGS, order, those without LOOPS, those without CUTS, bytes.
    private static void counts() {
        DrawnWays x = new DrawnWays();
        counts(x, "new", 0, 0, 0, 0, 0, 0, 0, 0);
        String eight = "own a 1;own b 1;own c 1;own d 1;own e 1;own f 1;own g 1;own h 1;meet a a a by 1 a;"
                + "meet a a b by 1 a;meet a b b by 1 a;meet b b b by 1 a";
        CHECKS.due("feed", Checks.feed(x, eight), 140);
        counts(x, "fed", 0, 0, 0, 0, 0, 0, 0, 140);
        x.book(5);
        counts(x, "a FAULT", 0, 0, 0, 0, 0, 0, 0, 0);
        Checks.feed(x, eight);
        x.book(141);
        counts(x, "refused by 2", 0, 0, 0, 0, 0, 0, 0, 140);
        x.book(eight.length());
        counts(x, "told", 8, 4, 0, 0, 0, 0, 0, 0);
        x.meeting(0, -1, 0, 0, 0, 0);
        counts(x, "a refused MEETING", 8, 4, 0, 0, 0, 0, 0, 0);
        x.meeting(0, 0, 0, 0, 0, 0);
        counts(x, "six ENDS", 8, 4, 6, 0, 0, 0, 0, 0);
        x.drawings(1);
        counts(x, "an empty LIST", 8, 4, 6, 0, 1, 0, 0, 0);
        x.meeting(0, 0, 0, 0, -1, 0);
        x.drawings(2);
        // By a alone three, by b alone three.
        counts(x, "a LIST without LOOPS", 8, 4, 4, 6, 2, 6, 0, 0);
        x.meeting(0, 0, -1, 0, 0, 0);
        x.drawings(0);
        counts(x, "a refused LIST", 8, 4, 2, 0, 0, 0, 0, 0);
        x.drawings(2);
        counts(x, "a LIST of LOOPS", 8, 4, 2, x.count(3), 2, 0, x.count(6), 0);
        for (int n = 1; n <= 20; n++) {
            x.feed(0, 0, 0, 0, 0);
        }
        counts(x, "a full TAPE", 8, 4, 2, x.count(3), 2, 0, x.count(6), 400);
        x.feed(0, 0, 0, 0, 0);
        counts(x, "and one more", 8, 4, 2, x.count(3), 2, 0, x.count(6), 400);
        x.book(400);
        counts(x, "a FAULT leaves all but THE TAPE", 8, 4, 2, x.count(3), 2, 0, x.count(6), 0);
        Checks.book(x, "own z 5");
        counts(x, "another BOOK", 1, 0, 0, 0, 0, 0, 0, 0);
    }
}
