/** Terms I at their bounds: a tape that is full or nearly so, tokens, numbers, and each fault's places. */
final class TextBoundsTest {
    private static final Checks CHECKS = new Checks("TextBoundsTest");
    private static final int FULL = 400;
    private static final String E = "own e 3;";
    private static final String RULE = "meet e e e by 1 a";

    public static void main(String[] args) {
        fullTape();
        nearlyFullTape();
        bytesOfTape();
        partsOfTape();
        emptyTexts();
        everyByteInWord();
        everyByteInWhole();
        everyByteAsSign();
        everyByteBetweenLines();
        words();
        wordsLikeOthers();
        wholes();
        heavies();
        marks();
        worths();
        letters();
        kindsAtTheBound();
        legsAtTheBound();
        rulesAtTheBound();
        firstPlaces();
        lastPlaces();
        twoOfOnePlace();
        whichIsMetFirst();
        faultAndWhere();
        lookingAtBooks();
        CHECKS.end();
    }

    private static void due(String call, long got, long want) {
        CHECKS.due(call, got, want);
    }

    private static void fault(String text, int number, int place) {
        CHECKS.dueFault(text, number, place);
    }

    private static DrawnWays good(String text, int kinds) {
        DrawnWays x = new DrawnWays();
        due("book of \"" + text + "\"", Checks.book(x, text), kinds);
        due("trouble() of \"" + text + "\"", x.trouble(), 0);
        due("fault() of \"" + text + "\"", x.fault(), 0);
        due("where() of \"" + text + "\"", x.where(), -1);
        return x;
    }

    /** A text of 400 bytes that ends with the tail, blanks being ahead of it. */
    private static String filled(String head, String tail) {
        return head + " ".repeat(FULL - head.length() - tail.length()) + tail;
    }

    // ---- the tape

    private static void fullTape() {
        DrawnWays x = new DrawnWays();
        String text = filled("own e 3; meet e e e by 2", "b");
        due("the feed that fills THE TAPE", Checks.feed(x, text), 400);
        due("feed beyond", x.feed(0x3b3b3b3b, 0, -1, 0x20202020, 7), -1);
        due("count(7) of a full TAPE", x.count(7), 400);
        due("book(401)", x.book(401), -1);
        due("trouble() of book(401)", x.trouble(), 2);
        due("THE TAPE stays", x.count(7), 400);
        due("feed is still beyond", x.feed(0, 0, 0, 0, 0), -1);
        due("book(400): none came", x.book(400), 1);
        due("its LETTER was the last byte", x.rule(0, 2), 1);
        due("THE TAPE is empty then", x.count(7), 0);
        due("and takes twenty again", x.feed(0, 0, 0, 0, 0), 20);
        due("book(21)", x.book(21), -1);
        due("trouble() of book(21)", x.trouble(), 2);
        due("book(20)", x.book(20), -1);
        due("trouble() of book(20)", x.trouble(), 4);
        due("where() of book(20)", x.where(), 0);
        due("the BOOK stays", x.rule(0, 2), 1);
        due("behind a FAULT THE TAPE is empty, too", x.count(7), 0);
        due("and is filled again", Checks.feed(x, text), 400);
        due("and refused again", Checks.feed(x, text), -1);
    }

    private static void nearlyFullTape() {
        DrawnWays x = new DrawnWays();
        String text = filled("own e 3", "").substring(0, 380);
        due("380 bytes", Checks.feed(x, text), 380);
        due("book(381)", x.book(381), -1);
        due("trouble() of book(381)", x.trouble(), 2);
        due("the twentieth feed", x.feed(0x3b6f776e, 0x20662034, 0x20202020, 0x20202020, 0x2020203b), 400);
        due("book(399): all but the last byte", x.book(399), 2);
        due("HEAVY from the twentieth feed", x.kind(1, 1), 4);
        due("the last byte is gone, too", x.count(7), 0);
        Checks.feed(x, text);
        x.feed(0x3b6f776e, 0x20662034, 0x20202020, 0x20202020, 0x2020203b);
        due("book(400): the last byte, too", x.book(400), -1);
        due("its FAULT is at the end", x.where(), 400);
    }

    // Twenty bytes, of each number the highest first; each place of the twenty for itself.
    private static void bytesOfTape() {
        for (int place = 0; place < 20; place++) {
            String text = " ".repeat(place) + "?" + " ".repeat(19 - place);
            DrawnWays x = new DrawnWays();
            due("feed of a ? at " + place, Checks.feed(x, text), 20);
            x.book(20);
            due("where() of a ? at " + place, x.where(), place);
        }
        DrawnWays x = new DrawnWays();
        x.feed(0x6f776e20, 0x61626364, 0x65666768, 0x20393920, 0x20202020);
        due("own abcdefgh 99", x.book(20), 1);
        due("its HEAVY", x.kind(0, 1), 99);
        x.feed(0x6f776e20, 0x65203320, 0x20202020, 0x20202020, 0x2020203b);
        x.feed(0x6f776e20, 0x66203420, 0x20202020, 0x20202020, 0x20202020);
        due("two feeds, one behind the other", x.book(40), 2);
        due("HEAVY of the first", x.kind(0, 1), 3);
        due("HEAVY of the second", x.kind(1, 1), 4);
    }

    // n bytes alone are read, whatever stands behind them.
    private static void partsOfTape() {
        for (int n = 0; n <= 6; n++) {
            DrawnWays x = new DrawnWays();
            Checks.feed(x, "own e 31");
            due("book(" + n + ") of own e 31", x.book(n), -1);
            due("fault()", x.fault(), 1);
            due("where(): the end or the cut WORD", x.where(), n < 3 ? 0 : n);
            due("THE TAPE is empty", x.count(7), 0);
        }
        for (int n = 7; n <= 8; n++) {
            DrawnWays x = new DrawnWays();
            Checks.feed(x, "own e 31");
            due("book(" + n + ") of own e 31", x.book(n), 1);
            due("its HEAVY", x.kind(0, 1), n == 7 ? 3 : 31);
        }
        DrawnWays x = new DrawnWays();
        Checks.feed(x, E + RULE + "a");
        due("the LETTER is cut to a", x.book(E.length() + RULE.length()), 1);
        for (int n : new int[] {-1, -20, 41, 400, 401, Integer.MIN_VALUE, Integer.MAX_VALUE}) {
            DrawnWays y = new DrawnWays();
            Checks.feed(y, "own e 31" + " ".repeat(32));
            due("book(" + n + ") of 40", y.book(n), -1);
            due("trouble()", y.trouble(), 2);
            due("fault()", y.fault(), 0);
            due("where()", y.where(), -1);
            due("THE TAPE stays", y.count(7), 40);
            due("book(40)", y.book(40), 1);
        }
    }

    private static void emptyTexts() {
        DrawnWays x = new DrawnWays();
        due("book(0) of no TAPE", x.book(0), -1);
        due("its FAULT", x.fault(), 1);
        due("its place", x.where(), 0);
        Checks.feed(x, filled("own e 1", ""));
        due("book(0) of a full TAPE", x.book(0), -1);
        due("trouble()", x.trouble(), 4);
        due("its FAULT", x.fault(), 1);
        due("its place", x.where(), 0);
        due("THE TAPE is empty", x.count(7), 0);
        for (int n : new int[] {1, 19, 20, 21, 399, 400}) {
            DrawnWays y = new DrawnWays();
            Checks.feed(y, filled("", ""));
            due("book(" + n + ") of blanks", y.book(n), -1);
            due("fault()", y.fault(), 1);
            due("where(): the end", y.where(), n);
        }
    }

    // ---- tokens

    private static boolean isSmall(int sign) {
        return sign >= 97 && sign <= 122;
    }

    private static boolean isDigit(int sign) {
        return sign >= 48 && sign <= 57;
    }

    private static void everyByteInWord() {
        for (int sign = 0; sign < 256; sign++) {
            String text = "own a" + (char) sign + "b 1";
            if (isSmall(sign)) {
                good(text, 1);
            } else if (sign == 48) {
                fault(text, 4, 5);
            } else {
                fault(text, 1, isDigit(sign) || sign == 32 ? 6 : 5);
            }
        }
    }

    private static void everyByteInWhole() {
        for (int sign = 0; sign < 256; sign++) {
            String text = "own a 1" + (char) sign;
            if (isDigit(sign)) {
                due("HEAVY of " + text, good(text, 1).kind(0, 1), 10 + sign - 48);
            } else if (sign == 32) {
                due("HEAVY of " + text, good(text, 1).kind(0, 1), 1);
            } else {
                fault(text, 1, sign == 59 ? 8 : 7);
            }
        }
    }

    private static void everyByteAsSign() {
        for (int sign = 0; sign < 256; sign++) {
            String text = "pair a b 1 " + (char) sign + "5";
            if (sign == 45 || sign == 32 || sign == 48) {
                due("MARK of " + text, good(text, 2).kind(0, 2), sign == 45 ? -5 : 5);
            } else {
                fault(text, isDigit(sign) ? 4 : 1, 11);
            }
        }
    }

    private static void everyByteBetweenLines() {
        for (int sign = 0; sign < 256; sign++) {
            String text = "own a 1" + (char) sign + "own b 1";
            if (sign == 59) {
                good(text, 2);
            } else {
                fault(text, 1, sign == 32 || isDigit(sign) ? 8 : 7);
            }
        }
        for (int sign = 0; sign < 256; sign++) {
            if (sign != 32) {
                fault((char) sign + " own b 1", 1, 0);
            }
        }
    }

    private static void words() {
        good("own z 1", 1);
        good("own zzzzzzzz 1", 1);
        fault("own zzzzzzzzz 1", 1, 4);
        fault("own " + "z".repeat(300) + " 1", 1, 4);
        good("pair aaaaaaaa aaaaaaab 1 0", 2);
        good("pair a aa 1 0", 2);
        fault("pair aaaaaaaa aaaaaaaa 1 0", 3, 14);
        fault("pair aaaaaaaa aaaaaaaaa 1 0", 1, 14);
        fault("pair aaaaaaaaa a 1 0", 1, 5);
        good("own abcdefgh 1;meet abcdefgh abcdefgh abcdefgh by 1 a", 1);
        fault("own abcdefgh 1;meet abcdefgh abcdefgh abcdefghi by 1 a", 1, 38);
        fault("own abcdefgh 1;meet abcdefg abcdefgh abcdefgh by 1 a", 2, 20);
        fault("own abcdefgh 1;meet abcdefgh abcdefgh abcdefgi by 1 a", 2, 38);
        fault("own bcdefgha 1;meet abcdefgha", 1, 20);
        fault("ownownown e 1", 1, 0);
        fault("own e 1;ownownown", 1, 8);
        fault(E + "meet e e e byabcdefg 1 a", 1, 19);
        fault(E + "meet e e e e byabcdefg 1 a", 1, 21);
    }

    private static void wordsLikeOthers() {
        good("own owner 1;own pairs 2;own halfs 3;own meets 4;own byy 5;own ow 6;own b 7;own y 8", 8);
        good("own nwo 1;own riap 2;own flah 3;own teem 4;own yb 5;own o 6;own bb 7;own my 8", 8);
        for (String word : new String[] {"own", "pair", "half", "meet", "by"}) {
            fault("own " + word + " 1", 1, 4);
            fault("pair " + word + " e 1 0", 1, 5);
            fault("half e " + word + " 1 0", 1, 7);
            fault(E + "meet " + word, 1, 13);
            fault(E + "meet e " + word, 1, 15);
            fault(E + "meet e e " + word, 1, 17);
            fault(E + "meet e e e by 1 " + word, 4, 24);
        }
        fault(E + "meet e e e byy 1 a", 2, 19);
        fault(E + "meet e e e b 1 a", 2, 19);
        good("own byy 5;meet byy byy byy byy by 1 a", 1);
        good("own e1;meet e e e by1a;own a1;own c2;meet a a c by-1c", 3);
    }

    private static void wholes() {
        due("WHOLE 001", good("own e 001", 1).kind(0, 1), 1);
        due("WHOLE 099", good("own e 099", 1).kind(0, 1), 99);
        fault("own e 000", 4, 6);
        fault("own e 999", 4, 6);
        fault("own e 0001", 1, 6);
        fault("own e 9999", 1, 6);
        fault("own e 00000000000000000001", 1, 6);
        fault("own e 4294967297", 1, 6);
        fault("own e " + "1".repeat(390), 1, 6);
        fault("1", 1, 0);
        fault("0001", 1, 0);
        due("WHOLES that blanks part are two", Checks.book(new DrawnWays(), "own e 1 1"), -1);
    }

    // ---- numbers that a text tells

    private static void heavies() {
        for (int heavy = 1; heavy <= 99; heavy += 49) {
            due("HEAVY of own", good("own e " + heavy, 1).kind(0, 1), heavy);
            DrawnWays x = good("pair e f " + heavy + " 0", 2);
            due("HEAVY of a first NAME", x.kind(0, 1), heavy);
            due("HEAVY of its FOE", x.kind(1, 1), heavy);
            due("HEAVY of half", good("half e f " + heavy + " 0", 2).kind(1, 1), heavy);
        }
        for (int heavy : new int[] {0, 100, 101, 999}) {
            fault("own e " + heavy, 4, 6);
            fault("pair e f " + heavy + " 0", 4, 9);
            fault("half e f " + heavy + " 0", 4, 9);
        }
        fault("own e -1", 1, 6);
        fault("own e - 1", 1, 6);
        fault("half e f -1 0", 1, 9);
    }

    private static void marks() {
        for (int mark = -9; mark <= 9; mark++) {
            for (String sort : new String[] {"pair", "half"}) {
                DrawnWays x = good(sort + " e f 1 " + mark, 2);
                due("MARK of the first NAME", x.kind(0, 2), mark);
                due("MARK of the second", x.kind(1, 2), -mark);
            }
        }
        due("MARK -  009", good("pair e f 1 -  009", 2).kind(1, 2), 9);
        due("MARK -000", good("half e f 1 -000", 2).kind(0, 2), 0);
        due("MARK of own", good("own e 9", 1).kind(0, 2), 0);
        fault("pair e f 1 10", 4, 11);
        fault("pair e f 1 -10", 4, 11);
        fault("pair e f 1 -  10", 4, 11);
        fault("half e f 1 010", 4, 11);
        fault("half e f 1 999", 4, 11);
        fault("half e f 1 -999", 4, 11);
        fault("pair e f 1 - - 1", 1, 13);
        fault("pair e f 1 -0009", 1, 12);
        fault("own e 1 1", 1, 8);
        fault("own e 1 -1", 1, 8);
    }

    private static void worths() {
        for (int worth : new int[] {-99, -98, -1, 1, 98, 99}) {
            due("WORTH", good(E + "meet e e e by " + worth + " c", 1).rule(0, 1), worth);
        }
        due("WORTH -  099", good(E + "meet e e e by -  099 c", 1).rule(0, 1), -99);
        due("WORTH 001", good(E + "meet e e e by 001 c", 1).rule(0, 1), 1);
        for (String worth : new String[] {"0", "000", "100", "999", "-0", "- 0", "-000", "-100", "-  999"}) {
            fault(E + "meet e e e by " + worth + " c", 4, 22);
        }
        fault(E + "meet e e e by 1000 c", 1, 22);
        fault(E + "meet e e e by -1000 c", 1, 23);
        fault(E + "meet e e e by - 0000 c", 1, 24);
        fault(E + "meet e e e by -- 1 c", 1, 23);
        fault(E + "meet e e e by - c", 1, 24);
        fault(E + "meet e e e by -", 1, 23);
    }

    private static void letters() {
        for (int l = 0; l < 3; l++) {
            due("LETTER", good(E + "meet e e e by 1 " + (char) (97 + l), 1).rule(0, 2), l);
        }
        for (char letter = 'd'; letter <= 'z'; letter++) {
            fault(E + "meet e e e by 1 " + letter, 4, 24);
        }
        for (String word : new String[] {"aa", "ab", "ca", "abcdefgh", "aaaaaaaa", "e", "by", "meet"}) {
            fault(E + "meet e e e by 1 " + word, 4, 24);
        }
        fault(E + "meet e e e by 1 aaaaaaaaa", 1, 24);
        fault(E + "meet e e e by 1 A", 1, 24);
        fault(E + "meet e e e by 1 1", 1, 24);
        fault(E + "meet e e e by 1 -", 1, 24);
        fault(E + "meet e e e by 1 ", 1, 24);
        fault(E + "meet e e e by 1", 1, 23);
    }

    // ---- how many

    private static String owns(int many) {
        StringBuilder text = new StringBuilder();
        for (int i = 0; i < many; i++) {
            text.append(i == 0 ? "" : ";").append("own ").append((char) (97 + i)).append(" 1");
        }
        return text.toString();
    }

    private static void kindsAtTheBound() {
        for (int many = 1; many <= 8; many++) {
            due("count(0) of " + many, good(owns(many), many).count(0), many);
        }
        fault(owns(9), 6, 8 * 8 + 4);
        fault(owns(20), 6, 8 * 8 + 4);
        good(owns(6) + ";pair x y 1 1", 8);
        fault(owns(7) + ";pair x y 1 1", 6, 7 * 8 + 7);
        fault(owns(8) + ";pair x y 1 1", 6, 8 * 8 + 5);
        fault(owns(7) + ";half x y 0 1", 6, 7 * 8 + 7);
        fault(owns(8) + ";half x", 6, 8 * 8 + 5);
        DrawnWays x = good("pair a b 1 1;half c d 2 2;pair e f 3 3;half g h 4 4", 8);
        for (int i = 0; i < 8; i++) {
            due("FOE of " + i, x.kind(i, 0), i ^ 1);
            due("HEAVY of " + i, x.kind(i, 1), i / 2 + 1);
            due("MARK of " + i, x.kind(i, 2), (i / 2 + 1) * (i % 2 == 0 ? 1 : -1));
            due("sort of " + i, x.kind(i, 3), i / 2 % 2 + 1);
        }
        fault("pair a b 1 1;half c d 2 2;pair e f 3 3;half g h 4 4;own i 1", 6, 4 * 13 + 4);
        x = good(owns(8) + ";meet h h h h by 9 a", 8);
        due("the eighth KIND as a LEG", x.rule(0, 6), 7);
        due("its FOE", x.kind(7, 0), 7);
    }

    private static void legsAtTheBound() {
        fault(E + "meet by 1 a", 1, 13);
        fault(E + "meet e by 1 a", 1, 15);
        fault(E + "meet e e by 1 a", 1, 17);
        due("three LEGS", good(E + "meet e e e by 1 a", 1).rule(0, 0), 3);
        due("four LEGS", good(E + "meet e e e e by 1 a", 1).rule(0, 0), 4);
        fault(E + "meet e e e e e by 1 a", 6, 21);
        fault(E + "meet e e e e e e e e", 6, 21);
        fault(E + "meet e e e e 1 by 1 a", 1, 21);
        fault(E + "meet e e e e ; own f 1", 1, 21);
        fault(E + "meet e e e e", 1, 20);
    }

    private static String rules(int many) {
        StringBuilder text = new StringBuilder(E);
        for (int i = 0; i < many; i++) {
            text.append(i == 0 ? "" : ";").append(RULE);
        }
        return text.toString();
    }

    private static void rulesAtTheBound() {
        due("no RULE", good("own e 1", 1).count(1), 0);
        for (int many = 1; many <= 4; many++) {
            due("count(1) of " + many, good(rules(many), 1).count(1), many);
        }
        int fifth = 8 + 4 * 18;
        fault(rules(5), 6, fifth);
        fault(rules(6), 6, fifth);
        // Whatever stands behind it: the end, what is no TOKEN, a NAME that isn't told, MARKS that aren't 0.
        fault(rules(4) + ";meet", 6, fifth);
        fault(rules(4) + ";meet ?", 6, fifth);
        fault(rules(4) + ";meet x x x by 0 d", 6, fifth);
        fault(rules(4) + ";meet e e e e e by 1 a", 6, fifth);
        String uneven = "pair u v 1 1;meet u v v u by 1 a;meet u v v u by 1 a;meet u v v u by 1 a;meet u v v u by 1 a";
        due("four RULES of a pair", good(uneven, 2).count(1), 4);
        fault(uneven + ";meet u u u by 1 a", 6, uneven.length() + 1);
        good(rules(4) + ";own f 1", 2);
    }

    // ---- faults and their places

    private static void firstPlaces() {
        fault("?", 1, 0);
        fault("e", 1, 0);
        fault("meet e", 2, 5);
        fault("meet e e e e e", 2, 5);
        fault("pair e e", 3, 7);
        fault("half e e 0 ?", 3, 7);
        fault("own e0", 4, 5);
        fault("pair u v1 1;meet u u u by1a", 5, 12);
        fault("half u v1 0;meet u u v by1a", 5, 12);
        fault("own e1;meet e e e e e", 6, 20);
    }

    private static void lastPlaces() {
        fault(filled("own e", ""), 1, 400);
        fault(filled("own e 1;", ""), 1, 400);
        fault(filled("own e 1", "?"), 1, 399);
        fault(filled("own e 1", "-"), 1, 399);
        fault(filled("own e 1", ";"), 1, 400);
        fault(filled("own e 1", "zzzzzzzzz"), 1, 391);
        fault(filled("own e", "0001"), 1, 396);
        fault(filled("own e 3;meet e e", "f"), 2, 399);
        fault(filled("own e 3;meet", "f"), 2, 399);
        fault(filled("own e 3;own", "e"), 3, 399);
        fault(filled("half f e 3 0;pair g", "e"), 3, 399);
        fault(filled("own e", "0"), 4, 399);
        fault(filled("own e", "100"), 4, 397);
        fault(filled("pair e f 1", "-10"), 4, 397);
        fault(filled("pair e f 1 -", "10"), 4, 11);
        fault(filled("pair e f 1", "-"), 1, 400);
        fault(filled("own e 3;meet e e e by", "0"), 4, 399);
        fault(filled("own e 3;meet e e e by 1", "d"), 4, 399);
        fault(filled("pair u v 1 1;", "meet u u u by1a"), 5, 385);
        fault(filled("pair u v 1 1;meet u u u by 1", "a"), 5, 13);
        fault(filled("own e 3;meet e e e e", "e"), 6, 399);
        fault(filled(owns(8) + ";own", "x"), 6, 399);
        fault(filled(owns(7) + ";pair x", "y"), 6, 399);
        fault(filled(rules(4) + ";", "meet"), 6, 396);
        due("HEAVY as the last byte", good(filled("own e", "9"), 1).kind(0, 1), 9);
        due("LETTER as the last byte", good(filled(E + "meet e e e by 1", "c"), 1).rule(0, 2), 2);
    }

    private static void twoOfOnePlace() {
        // FORM and 2, 3, 4, 6
        fault("own e 1;meet own", 1, 13);
        fault("own e 1;meet fffffffff", 1, 13);
        fault("own e 1;own eeeeeeeee 1", 1, 12);
        fault("own e 1000", 1, 6);
        fault("pair e f 1 1000", 1, 11);
        fault(owns(8) + ";own half 1", 1, 8 * 8 + 4);
        fault(owns(8) + ";own xxxxxxxxx 1", 1, 8 * 8 + 4);
        fault(E + "meet e e e e own", 1, 21);
        fault(E + "meet e e e e eeeeeeeee", 1, 21);
        // 2 and 6
        fault(E + "meet e e e e f", 2, 21);
        // 3 and 6
        fault(owns(8) + ";own a 1", 3, 8 * 8 + 4);
        fault(owns(8) + ";pair h x 1 1", 3, 8 * 8 + 5);
        fault(owns(7) + ";half x a 1 1", 3, 7 * 8 + 7);
        fault(owns(7) + ";half x x 1 1", 3, 7 * 8 + 7);
        // 5 of a RULE beyond is of no matter: MANY is met as the WORD meet is.
        String four = "half u v 1 0;own e 1;" + "meet u v e by 1 a;".repeat(4);
        fault(four + "meet u e e by 1 a", 6, four.length());
    }

    private static void whichIsMetFirst() {
        fault("own e 0;own e 0", 4, 6);
        fault("own e 1;own e 0", 3, 12);
        fault("own e 1;own f 0;own e 1", 4, 14);
        fault("pair e f 0 10", 4, 9);
        fault("pair e f 1 10;?", 4, 11);
        fault("own e 1;meet f ?", 2, 13);
        fault("own e 1;meet ? f", 1, 13);
        fault("own e 1;meet e e e by 0 d", 4, 22);
        // 5 is met where the LETTER is read: what stands ahead of that comes first, what stands behind it doesn't.
        String odd = "pair u v 1 1;own e 1;meet u e e";
        fault(odd + " by 0 a", 4, odd.length() + 4);
        fault(odd + " by 1 d", 4, odd.length() + 6);
        fault(odd + " by 1", 1, odd.length() + 5);
        fault(odd + " by 1 ?", 1, odd.length() + 6);
        fault(odd + " x by 1 a", 2, odd.length() + 1);
        fault(odd + " e e by 1 a", 6, odd.length() + 3);
        fault(odd + " by 1 a", 5, 21);
        fault(odd + " by 1 a?", 5, 21);
        fault(odd + " by 1 a a", 5, 21);
        fault(odd + " by 1 a;own e 1", 5, 21);
        fault("pair u v 1 1;own e 1;meet u v e by 1 a;meet u u v by 1 a;meet v v u by 1 a", 5, 39);
        fault("pair u v 1 9;pair w x 1 1;meet u u x x by 1 a", 5, 26);
        good("pair u v 1 9;pair w x 1 1;meet u v x w by 1 a", 4);
        good("pair u v 1 9;pair w x 1 -9;meet u u w w by 1 a", 4);
        fault("half a b 1 0;half c d 1 0;meet a b c d by 1 a;meet a b c c by 1 a", 5, 46);
        fault("half a b 1 0;half c d 1 0;meet a b c by 1 a", 5, 26);
        fault("half a b 1 1;half c d 1 -1;meet a c c a by 1 a", 5, 27);
        fault("half a b 1 1;half c d 1 -1;own e 1;meet e a b c by 1 a", 5, 35);
    }

    // Promises 4 and 5 as books and other calls follow each other.
    private static void faultAndWhere() {
        DrawnWays x = new DrawnWays();
        due("book", Checks.book(x, "own e 100"), -1);
        due("where()", x.where(), 6);
        due("where() again", x.where(), 6);
        x.feed(0, 0, 0, 0, 0);
        x.count(0);
        x.kind(0, 0);
        due("where() behind calls that aren't refused", x.where(), 6);
        due("book(21)", x.book(21), -1);
        due("where() behind a book() refused by 2", x.where(), -1);
        due("fault() is still that of the one before", x.fault(), 4);
        x.meeting(0, 0, -1, 0, 0, 0);
        due("fault() behind a refused meeting()", x.fault(), 4);
        due("book of what is fed", x.book(20), -1);
        due("fault() of the latest", x.fault(), 1);
        due("where() of the latest", x.where(), 0);
        x.number(0, 0);
        due("where() behind a refused number()", x.where(), -1);
        due("a book", Checks.book(x, "own e 1"), 1);
        due("fault() of a book that is told", x.fault(), 0);
        due("where() of it", x.where(), -1);
        due("a faulty one", Checks.book(x, "own e 1;own e 1"), -1);
        due("its place", x.where(), 12);
        x.letter(0, 1);
        due("where() behind letter()", x.where(), -1);
        due("fault() behind letter()", x.fault(), 3);
        due("book(-1)", x.book(-1), -1);
        due("fault() behind book(-1)", x.fault(), 3);
    }

    private static void lookingAtBooks() {
        DrawnWays x = good("own a 1;half b c 2 3;pair d e 4 -5;meet a b c by -6 c;meet d e a a by 7 b", 5);
        int[] off = {Integer.MIN_VALUE, -99, -2, -1, 5, 6, 8, 9, 200, Integer.MAX_VALUE};
        for (int i : off) {
            due("kind(" + i + ", 0)", x.kind(i, 0), Checks.NO_INT);
            due("kind(0, " + i + ")", x.kind(0, i), Checks.NO_INT);
            due("kind(" + i + ", " + i + ")", x.kind(i, i), Checks.NO_INT);
            due("rule(" + i + ", 0)", x.rule(i, 0), Checks.NO_INT);
        }
        for (int what : new int[] {Integer.MIN_VALUE, -1, 7, 8, Integer.MAX_VALUE}) {
            due("rule(0, " + what + ")", x.rule(0, what), Checks.NO_INT);
            due("rule(1, " + what + ")", x.rule(1, what), Checks.NO_INT);
        }
        due("kind(0, 4)", x.kind(0, 4), Checks.NO_INT);
        due("rule(2, 0)", x.rule(2, 0), Checks.NO_INT);
        due("rule(3, 6)", x.rule(3, 6), Checks.NO_INT);
        due("rule(4, 3)", x.rule(4, 3), Checks.NO_INT);
        int[][] kinds = {{0, 1, 0, 0}, {2, 2, 3, 2}, {1, 2, -3, 2}, {4, 4, -5, 1}, {3, 4, 5, 1}};
        for (int i = 0; i < 5; i++) {
            for (int what = 0; what < 4; what++) {
                due("kind(" + i + ", " + what + ")", x.kind(i, what), kinds[i][what]);
            }
        }
        int[][] rules = {{3, -6, 2, 0, 1, 2, -2}, {4, 7, 1, 3, 4, 0, 0}};
        for (int i = 0; i < 2; i++) {
            for (int what = 0; what < 7; what++) {
                due("rule(" + i + ", " + what + ")", x.rule(i, what), rules[i][what]);
            }
        }
        Checks.book(x, "own z 9");
        due("a KIND of the book before", x.kind(1, 0), Checks.NO_INT);
        due("a RULE of the book before", x.rule(0, 0), Checks.NO_INT);
        due("the KIND of the new one", x.kind(0, 1), 9);
    }
}
