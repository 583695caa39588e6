import java.util.NoSuchElementException;

/**
 * A bench for meetings of lines. The document calls the parts KINDS, RULES, ENDS, POINTS,
 * LEGS and DRAWINGS; the names here are the same in small letters.
 */
public final class DrawnWays {
    public static final int NONE = -1;

    private static final int NO_INT = -2147483648;
    private static final long NO_LONG = -9223372036854775808L;
    private static final int NO_PAIRING = -2;
    private static final int NO_LEG = -2;

    private static final int NOT_REFUSED = 0;
    private static final int NONE_SUCH = 1;
    private static final int BAD_NUMBER = 2;
    private static final int NO_ROOM = 3;
    private static final int FAULTY = 4;
    private static final int AT_POLE = 5;
    private static final int LOST = 6;
    private static final int UNBALANCED = 7;
    private static final int NUMBERS_LEFT = 8;

    private static final int MOST_KINDS = 8;
    private static final int MOST_RULES = 4;
    private static final int MOST_RULE_LEGS = 4;
    private static final int MOST_ENDS = 6;
    private static final int MOST_POINTS = 3;
    private static final int MOST_LEGS = 12;
    private static final int MOST_JOINS = 6;
    private static final int MOST_DRAWINGS = 200;
    private static final int MOST_CUTS = 2;
    private static final int MOST_GROUPS = 20;
    private static final int LETTER_COUNT = 3;

    private static final int OWN = 0;
    private static final int PAIR = 1;
    private static final int HALF = 2;

    private final Reader reader = new Reader();
    private final Lister lister = new Lister();
    private final ExactSum exact = new ExactSum();
    private final Ends ends = new Ends();
    private final Ends near = new Ends();
    private final Ends far = new Ends();
    private final Reckoning nearPart = new Reckoning();
    private final Reckoning farPart = new Reckoning();
    private final int[] letters = new int[LETTER_COUNT];
    private final int[] told = new int[MOST_ENDS];
    private Book book = new Book();
    private Gallery list = new Gallery();
    private Reckoning answer = new Reckoning();
    private Reckoning trial = new Reckoning();
    private boolean listed;
    private boolean answered;
    private int refusal;
    private int poleSide;

    public DrawnWays() {
        for (int l = 0; l < LETTER_COUNT; l++) {
            letters[l] = 1;
        }
    }

    // ---- the book

    public int feed(int a, int b, int c, int d, int e) {
        return reader.take(a, b, c, d, e);
    }

    public int book(int n) {
        if (n < 0 || n > reader.length) {
            return refused(BAD_NUMBER);
        }
        boolean read = reader.read(n);
        reader.length = 0;
        if (!read) {
            return refused(FAULTY);
        }
        Book old = book;
        book = reader.draft;
        reader.draft = old;
        ends.clear();
        listed = false;
        for (int l = 0; l < LETTER_COUNT; l++) {
            letters[l] = 1;
        }
        refusal = NOT_REFUSED;
        return book.kinds;
    }

    public int fault() {
        return reader.fault;
    }

    public int where() {
        return refusal == FAULTY ? reader.place : NONE;
    }

    public int kind(int i, int what) {
        return book.ofKind(i, what);
    }

    public int rule(int i, int what) {
        return book.ofRule(i, what);
    }

    // ---- meetings and drawings

    public int meeting(int a, int b, int c, int d, int e, int f) {
        told[0] = a;
        told[1] = b;
        told[2] = c;
        told[3] = d;
        told[4] = e;
        told[5] = f;
        int size = 0;
        while (size < MOST_ENDS && told[size] != NONE) {
            if (!book.hasKind(told[size])) {
                return refused(NONE_SUCH);
            }
            size++;
        }
        if (!book.isTold()) {
            return refused(NONE_SUCH);
        }
        if (size < 2) {
            return refused(BAD_NUMBER);
        }
        ends.clear();
        for (int i = 0; i < size; i++) {
            ends.add(told[i], 0);
        }
        listed = false;
        refusal = NOT_REFUSED;
        return size;
    }

    public int drawings(int order) {
        int found = orderRefusal(order);
        if (found != NOT_REFUSED) {
            return refused(found);
        }
        if (!ends.isBalanced(book)) {
            return refused(UNBALANCED);
        }
        if (!lister.fill(book, ends, order)) {
            return refused(NO_ROOM);
        }
        Gallery old = list;
        list = lister.gallery;
        lister.gallery = old;
        listed = true;
        refusal = NOT_REFUSED;
        return list.size;
    }

    public int drawing(int i, int what) {
        return isListed(i) ? list.ofDrawing(i, what) : NO_INT;
    }

    public int point(int i, int p) {
        return isListed(i) ? list.ruleOf(i, p) : NONE;
    }

    public int joined(int i, int leg) {
        return isListed(i) ? list.partnerOf(i, leg) : NONE;
    }

    public int side(int i, int k) throws NoSuchElementException {
        if (!isListed(i) || !list.hasCut(i, k)) {
            throw new NoSuchElementException();
        }
        return list.sideOf(i, k);
    }

    public int pairings() {
        return listed ? list.allWays() : NONE;
    }

    public int same(int i, int a, int b, int c, int d, int e, int f) {
        if (!isListed(i)) {
            return NONE;
        }
        int legs = list.legsOf(i);
        long row = packPair(a, 0, legs, 0L);
        row = packPair(b, 2, legs, row);
        row = packPair(c, 4, legs, row);
        row = packPair(d, 6, legs, row);
        row = packPair(e, 8, legs, row);
        row = packPair(f, 10, legs, row);
        if (row < 0) {
            return NO_PAIRING;
        }
        long least = lister.leastOf(book, ends, list.order, list.codeOf(i), row);
        return least < 0 ? NO_PAIRING : list.find(list.groupOf(i), least);
    }

    // ---- sums

    public long sum(int a, int b, int c, boolean denominator) {
        if (!hasPowers(a, b, c)) {
            return NO_LONG;
        }
        return exactly(powersCode(a, b, c), false, denominator);
    }

    public long byPairings(int a, int b, int c, boolean denominator) {
        if (!hasPowers(a, b, c)) {
            return NO_LONG;
        }
        lister.walkAll(book, ends, list, powersCode(a, b, c));
        return exactly(powersCode(a, b, c), true, denominator);
    }

    // ---- worths

    public boolean number(int end, int v) {
        if (end < 0 || end >= ends.size) {
            return allowed(NONE_SUCH);
        }
        if (v < -999 || v > 999) {
            return allowed(BAD_NUMBER);
        }
        ends.numbers[end] = v;
        return allowed(NOT_REFUSED);
    }

    public boolean letter(int l, int v) {
        if (!book.isTold() || l < 0 || l >= LETTER_COUNT) {
            return allowed(NONE_SUCH);
        }
        if (v < -99 || v > 99) {
            return allowed(BAD_NUMBER);
        }
        letters[l] = v;
        return allowed(NOT_REFUSED);
    }

    public boolean at(int order) {
        int found = orderRefusal(order);
        if (found == NOT_REFUSED) {
            found = reckonWhole(order, 0, NONE);
        }
        return allowed(found);
    }

    public boolean parted(int side, int kind, int order) {
        int found = cutRefusal(side, kind, order);
        if (found == NOT_REFUSED) {
            found = reckonParts(side, kind, order);
        }
        return allowed(found);
    }

    public boolean whole(int side, int kind, int order) {
        int found = cutRefusal(side, kind, order);
        if (found == NOT_REFUSED) {
            found = reckonWhole(order, side, book.ofKind(kind, 0));
        }
        return allowed(found);
    }

    public long worth(boolean denominator) {
        if (!answered) {
            return NO_LONG;
        }
        return denominator ? answer.denominator : answer.numerator;
    }

    public int rest(int k) {
        return answered ? answer.restBy(k) : NONE;
    }

    public int pole() {
        return refusal == AT_POLE ? poleSide : NONE;
    }

    public int count(int what) {
        switch (what) {
            case 0:
                return book.kinds;
            case 1:
                return book.rules;
            case 2:
                return ends.size;
            case 3:
                return listed ? list.size : 0;
            case 4:
                return listed ? list.order : 0;
            case 5:
                return listed ? list.withoutLoops() : 0;
            case 6:
                return listed ? list.withoutCuts() : 0;
            case 7:
                return reader.length;
            default:
                return NONE;
        }
    }

    public int trouble() {
        return refusal;
    }

    // ---- what the calls share

    private int refused(int why) {
        refusal = why;
        return NONE;
    }

    private boolean allowed(int why) {
        refusal = why;
        return why == NOT_REFUSED;
    }

    private boolean isListed(int i) {
        return listed && i >= 0 && i < list.size;
    }

    private int orderRefusal(int order) {
        if (ends.size == 0) {
            return NONE_SUCH;
        }
        return order < 1 || order > MOST_POINTS ? BAD_NUMBER : NOT_REFUSED;
    }

    private int cutRefusal(int side, int kind, int order) {
        if (ends.size == 0 || !ends.isSide(side) || !book.hasKind(kind)) {
            return NONE_SUCH;
        }
        return order < 2 || order > MOST_POINTS ? BAD_NUMBER : NOT_REFUSED;
    }

    private boolean hasPowers(int a, int b, int c) {
        return listed && a >= 0 && b >= 0 && c >= 0 && (long) a + b + c == list.order;
    }

    private long exactly(int powers, boolean walked, boolean denominator) {
        exact.clear();
        for (int g = 0; g < list.groups; g++) {
            if (list.powers[g] == powers) {
                exact.widen(list.divisor(g));
            }
        }
        for (int g = 0; g < list.groups; g++) {
            if (list.powers[g] == powers) {
                long ways = walked ? list.walks[g] : list.signedWays(g);
                exact.add(ways * list.worths[g], list.divisor(g));
            }
        }
        exact.reduce();
        if (!exact.fits) {
            return NO_LONG;
        }
        return denominator ? exact.denominator : exact.numerator;
    }

    // A side of 0 asks for the worth of all drawings, another for those with that cut alone.
    private int reckonWhole(int order, int side, int sideKind) {
        if (!ends.isBalanced(book)) {
            return UNBALANCED;
        }
        if (ends.total() != 0) {
            return NUMBERS_LEFT;
        }
        boolean ready = listed && list.order == order;
        if (!ready && !lister.fill(book, ends, order)) {
            return NO_ROOM;
        }
        trial.clear();
        trial.addWorths(ready ? list : lister.gallery, book, ends, letters, side, sideKind);
        return settle();
    }

    private int reckonParts(int side, int kind, int order) {
        splitEnds(side, kind);
        if (!ends.isBalanced(book) || !near.isBalanced(book) || !far.isBalanced(book)) {
            return UNBALANCED;
        }
        if (ends.total() != 0) {
            return NUMBERS_LEFT;
        }
        trial.clear();
        for (int first = 1; first < order; first++) {
            if (!lister.fill(book, near, first)) {
                return NO_ROOM;
            }
            nearPart.clear();
            nearPart.addWorths(lister.gallery, book, near, letters, 0, NONE);
            if (!lister.fill(book, far, order - first)) {
                return NO_ROOM;
            }
            farPart.clear();
            farPart.addWorths(lister.gallery, book, far, letters, 0, NONE);
            trial.addProduct(nearPart, farPart);
        }
        return settle();
    }

    private void splitEnds(int side, int kind) {
        near.clear();
        far.clear();
        for (int i = 0; i < ends.size; i++) {
            Ends part = ((side >> i) & 1) != 0 ? near : far;
            part.add(ends.kinds[i], ends.numbers[i]);
        }
        near.add(kind, -near.total());
        far.add(book.ofKind(kind, 0), -far.total());
    }

    private int settle() {
        if (trial.pole != NONE) {
            poleSide = trial.pole;
            return AT_POLE;
        }
        if (!trial.findFraction()) {
            return LOST;
        }
        Reckoning old = answer;
        answer = trial;
        trial = old;
        answered = true;
        return NOT_REFUSED;
    }

    // Two legs' partners behind those of a row; -1 as soon as one of them is no leg.
    private static long packPair(int pair, int leg, int legs, long row) {
        if (leg >= legs || row < 0) {
            return row;
        }
        int first = Math.floorDiv(pair, 100);
        int second = Math.floorMod(pair, 100);
        if (first < 0 || first >= legs || second >= legs) {
            return -1L;
        }
        return row | Layout.inRow(leg, first) | Layout.inRow(leg + 1, second);
    }

    private static int powersCode(int a, int b, int c) {
        return (a << 4) + (b << 2) + c;
    }

    /** The tape, and the reading of a text on it into a book. */
    private static final class Reader {
        private static final int TAPE_SIZE = 400;
        private static final int FED = 20;

        private static final int AT_END = 0;
        private static final int WORD = 1;
        private static final int WHOLE = 2;
        private static final int SEMICOLON = 3;
        private static final int DASH = 4;
        private static final int NO_TOKEN = 5;

        private static final int FORM = 1;
        private static final int UNTOLD = 2;
        private static final int TOLD_ANEW = 3;
        private static final int BOUNDS = 4;
        private static final int UNEVEN = 5;
        private static final int MANY = 6;

        private static final int MOST_WORD = 8;
        private static final int MOST_DIGITS = 3;

        // Words are held as five bits a letter, a being 1.
        private static final long OWN_WORD = (15L << 10) | (23L << 5) | 14L;
        private static final long PAIR_WORD = (16L << 15) | (1L << 10) | (9L << 5) | 18L;
        private static final long HALF_WORD = (8L << 15) | (1L << 10) | (12L << 5) | 6L;
        private static final long MEET_WORD = (13L << 15) | (5L << 10) | (5L << 5) | 20L;
        private static final long BY_WORD = (2L << 5) | 25L;

        private final byte[] tape = new byte[TAPE_SIZE];
        private int length;
        private int end;
        private int next;
        private int token;
        private int start;
        private long word;
        private int value;
        private int fault;
        private int place;
        // What is read is told here; it becomes the book if the text has no fault.
        private Book draft = new Book();

        int take(int a, int b, int c, int d, int e) {
            if (length > TAPE_SIZE - FED) {
                return NONE;
            }
            put(a);
            put(b);
            put(c);
            put(d);
            put(e);
            return length;
        }

        boolean read(int n) {
            end = n;
            next = 0;
            fault = 0;
            place = NONE;
            draft.clear();
            advance();
            for (int line = 0; line < TAPE_SIZE; line++) {
                if (!readLine()) {
                    return false;
                }
                if (token == AT_END) {
                    return true;
                }
                if (token != SEMICOLON) {
                    return fail(FORM, start);
                }
                advance();
            }
            return fail(FORM, start);
        }

        private void put(int bytes) {
            for (int shift = 24; shift >= 0; shift -= 8) {
                if (length < TAPE_SIZE) {
                    tape[length] = (byte) (bytes >> shift);
                    length++;
                }
            }
        }

        private boolean fail(int why, int at) {
            fault = why;
            place = at;
            return false;
        }

        private int byteAt(int i) {
            return i >= 0 && i < end && i < TAPE_SIZE ? tape[i] : 0;
        }

        private void advance() {
            while (next < end && byteAt(next) == ' ') {
                next++;
            }
            start = next;
            if (next >= end) {
                token = AT_END;
                return;
            }
            int sign = byteAt(next);
            if (isSmall(sign)) {
                readWord();
            } else if (isDigit(sign)) {
                readWhole();
            } else {
                token = sign == ';' ? SEMICOLON : sign == '-' ? DASH : NO_TOKEN;
                next++;
            }
        }

        private void readWord() {
            word = 0;
            while (next < end && isSmall(byteAt(next))) {
                word = (word << 5) | (byteAt(next) - 'a' + 1);
                next++;
            }
            token = next - start > MOST_WORD ? NO_TOKEN : WORD;
        }

        private void readWhole() {
            value = 0;
            while (next < end && isDigit(byteAt(next))) {
                value = value * 10 + byteAt(next) - '0';
                next++;
            }
            token = next - start > MOST_DIGITS ? NO_TOKEN : WHOLE;
        }

        private boolean readLine() {
            if (token != WORD) {
                return fail(FORM, start);
            }
            if (word == OWN_WORD) {
                return readOwn();
            }
            if (word == PAIR_WORD) {
                return readTwo(PAIR);
            }
            if (word == HALF_WORD) {
                return readTwo(HALF);
            }
            if (word == MEET_WORD) {
                return readMeet();
            }
            return fail(FORM, start);
        }

        private boolean readOwn() {
            advance();
            if (!readNewName() || !readHeavy()) {
                return false;
            }
            draft.setOwn(value);
            advance();
            return true;
        }

        private boolean readTwo(int sort) {
            advance();
            if (!readNewName() || !readNewName() || !readHeavy()) {
                return false;
            }
            int heavy = value;
            advance();
            if (!readInt(9, true)) {
                return false;
            }
            draft.setTwo(sort, heavy, value);
            advance();
            return true;
        }

        private boolean readNewName() {
            if (!isName()) {
                return fail(FORM, start);
            }
            if (draft.findKind(word) != NONE) {
                return fail(TOLD_ANEW, start);
            }
            if (!draft.addKind(word)) {
                return fail(MANY, start);
            }
            advance();
            return true;
        }

        private boolean readHeavy() {
            if (token != WHOLE) {
                return fail(FORM, start);
            }
            return value >= 1 && value <= 99 || fail(BOUNDS, start);
        }

        private boolean readInt(int most, boolean mayBeZero) {
            int from = start;
            boolean below = token == DASH;
            if (below) {
                advance();
            }
            if (token != WHOLE) {
                return fail(FORM, start);
            }
            if (value > most || value == 0 && !mayBeZero) {
                return fail(BOUNDS, from);
            }
            value = below ? -value : value;
            return true;
        }

        private boolean readMeet() {
            int from = start;
            if (!draft.openRule()) {
                return fail(MANY, from);
            }
            advance();
            if (!readLegs()) {
                return false;
            }
            advance();
            if (!readInt(99, false)) {
                return false;
            }
            int ruleWorth = value;
            advance();
            if (token != WORD) {
                return fail(FORM, start);
            }
            if (word < 1 || word > LETTER_COUNT) {
                return fail(BOUNDS, start);
            }
            if (!draft.closeRule(ruleWorth, (int) word - 1)) {
                return fail(UNEVEN, from);
            }
            advance();
            return true;
        }

        // Ends at the word "by"; more legs than a rule may have are a fault of the fifth name.
        private boolean readLegs() {
            for (int leg = 0; leg <= MOST_RULE_LEGS; leg++) {
                if (leg >= 3 && token == WORD && word == BY_WORD) {
                    return true;
                }
                if (!isName()) {
                    return fail(FORM, start);
                }
                int found = draft.findKind(word);
                if (found == NONE) {
                    return fail(UNTOLD, start);
                }
                if (!draft.addLeg(found)) {
                    return fail(MANY, start);
                }
                advance();
            }
            return fail(MANY, start);
        }

        private boolean isName() {
            return token == WORD && word != OWN_WORD && word != PAIR_WORD && word != HALF_WORD
                    && word != MEET_WORD && word != BY_WORD;
        }

        private static boolean isSmall(int sign) {
            return sign >= 'a' && sign <= 'z';
        }

        private static boolean isDigit(int sign) {
            return sign >= '0' && sign <= '9';
        }
    }

    /** The kinds and rules that a text has told. */
    private static final class Book {
        private final long[] names = new long[MOST_KINDS];
        private final int[] foes = new int[MOST_KINDS];
        private final int[] heavies = new int[MOST_KINDS];
        private final int[] marks = new int[MOST_KINDS];
        private final int[] sorts = new int[MOST_KINDS];
        private final int[] sizes = new int[MOST_RULES];
        private final int[] worths = new int[MOST_RULES];
        private final int[] letterOf = new int[MOST_RULES];
        private final int[] legKinds = new int[MOST_RULES * MOST_RULE_LEGS];
        private int kinds;
        private int rules;

        void clear() {
            kinds = 0;
            rules = 0;
        }

        // Every text without a fault tells a kind, so a book without one is no book yet.
        boolean isTold() {
            return kinds > 0;
        }

        boolean hasKind(int i) {
            return i >= 0 && i < kinds;
        }

        int ofKind(int i, int what) {
            if (!hasKind(i)) {
                return NO_INT;
            }
            switch (what) {
                case 0:
                    return foes[i];
                case 1:
                    return heavies[i];
                case 2:
                    return marks[i];
                case 3:
                    return sorts[i];
                default:
                    return NO_INT;
            }
        }

        int ofRule(int i, int what) {
            if (i < 0 || i >= rules) {
                return NO_INT;
            }
            switch (what) {
                case 0:
                    return sizes[i];
                case 1:
                    return worths[i];
                case 2:
                    return letterOf[i];
                case 3:
                case 4:
                case 5:
                case 6:
                    return what - 3 < sizes[i] ? legKinds[i * MOST_RULE_LEGS + what - 3] : NO_LEG;
                default:
                    return NO_INT;
            }
        }

        boolean isHalf(int i) {
            return hasKind(i) && sorts[i] == HALF;
        }

        // Whether lines of these kinds may end together: marks are 0 and half ones are even.
        boolean areEven(int[] row, int from, int size) {
            int marked = 0;
            int halves = 0;
            for (int i = from; i < from + size && i < row.length; i++) {
                if (i >= 0 && hasKind(row[i])) {
                    marked += marks[row[i]];
                    halves += isHalf(row[i]) ? 1 : 0;
                }
            }
            return marked == 0 && halves % 2 == 0;
        }

        int findKind(long name) {
            for (int i = 0; i < kinds; i++) {
                if (names[i] == name) {
                    return i;
                }
            }
            return NONE;
        }

        boolean addKind(long name) {
            if (kinds >= MOST_KINDS) {
                return false;
            }
            names[kinds] = name;
            kinds++;
            return true;
        }

        void setOwn(int heavy) {
            if (kinds >= 1) {
                setKind(kinds - 1, kinds - 1, OWN, heavy, 0);
            }
        }

        void setTwo(int sort, int heavy, int mark) {
            if (kinds >= 2) {
                setKind(kinds - 2, kinds - 1, sort, heavy, mark);
                setKind(kinds - 1, kinds - 2, sort, heavy, -mark);
            }
        }

        private void setKind(int i, int foe, int sort, int heavy, int mark) {
            foes[i] = foe;
            sorts[i] = sort;
            heavies[i] = heavy;
            marks[i] = mark;
        }

        boolean openRule() {
            if (rules >= MOST_RULES) {
                return false;
            }
            sizes[rules] = 0;
            return true;
        }

        boolean addLeg(int kindOfLeg) {
            if (rules >= MOST_RULES || sizes[rules] >= MOST_RULE_LEGS) {
                return false;
            }
            legKinds[rules * MOST_RULE_LEGS + sizes[rules]] = kindOfLeg;
            sizes[rules]++;
            return true;
        }

        // Counts the rule that is open, unless its legs may not meet.
        boolean closeRule(int ruleWorth, int l) {
            if (rules >= MOST_RULES) {
                return false;
            }
            int from = rules * MOST_RULE_LEGS;
            if (!areEven(legKinds, from, sizes[rules]) || hasHalfTwice(from, sizes[rules])) {
                return false;
            }
            worths[rules] = ruleWorth;
            letterOf[rules] = l;
            rules++;
            return true;
        }

        private boolean hasHalfTwice(int from, int size) {
            int seen = 0;
            for (int i = from; i < from + size && i < legKinds.length; i++) {
                int bit = 1 << legKinds[i];
                if (isHalf(legKinds[i]) && (seen & bit) != 0) {
                    return true;
                }
                seen |= bit;
            }
            return false;
        }
    }

    /** The ends of a meeting, with their numbers; none if there is no meeting. */
    private static final class Ends {
        private final int[] kinds = new int[MOST_ENDS];
        private final int[] numbers = new int[MOST_ENDS];
        private int size;

        void clear() {
            size = 0;
        }

        void add(int kindOfEnd, int v) {
            if (size < MOST_ENDS) {
                kinds[size] = kindOfEnd;
                numbers[size] = v;
                size++;
            }
        }

        boolean isBalanced(Book book) {
            return book.areEven(kinds, 0, size);
        }

        int total() {
            return flow((1 << size) - 1);
        }

        int flow(int bits) {
            int total = 0;
            for (int i = 0; i < size; i++) {
                if (((bits >> i) & 1) != 0) {
                    total += numbers[i];
                }
            }
            return total;
        }

        boolean isSide(int bits) {
            int all = (1 << size) - 1;
            int inside = Integer.bitCount(bits);
            return (bits & ~all) == 0 && (bits & 1) != 0 && inside >= 2 && size - inside >= 2;
        }
    }

    /** The legs of the ends and of the points of some rules, and what may be joined there. */
    private static final class Layout {
        private static final int[] SWAPS = {
            0, 1, 2, 1, 0, 2, 0, 2, 1, 1, 2, 0, 2, 0, 1, 2, 1, 0
        };
        private static final int SWAP_COUNT = 6;

        private final int[] legKinds = new int[MOST_LEGS];
        private final int[] legPoints = new int[MOST_LEGS];
        // The first leg of the same point and kind; legs that have it in common are alike.
        private final int[] firsts = new int[MOST_LEGS];
        private final int[] alike = new int[MOST_LEGS];
        private final int[] partners = new int[MOST_LEGS];
        private final int[] rules = new int[MOST_POINTS];
        private final int[] starts = new int[MOST_POINTS];
        private int points;
        private int ends;
        private int legs;
        private int halves;
        private int seconds;
        private int namings;

        // False if these rules aren't taken together, or no pairing could join all legs.
        boolean lay(Book book, Ends told, int order, int code) {
            points = order;
            ends = told.size;
            legs = ends;
            for (int i = 0; i < ends && i < MOST_ENDS; i++) {
                legKinds[i] = told.kinds[i];
                legPoints[i] = NONE;
                firsts[i] = i;
            }
            for (int p = 0; p < order && p < MOST_POINTS; p++) {
                int ruleHere = Gallery.ruleIn(code, order, p);
                if (ruleHere >= book.rules || p > 0 && ruleHere < rules[p - 1]) {
                    return false;
                }
                if (legs + book.sizes[ruleHere] > MOST_LEGS) {
                    return false;
                }
                rules[p] = ruleHere;
                layPoint(book, p);
            }
            if (legs % 2 != 0) {
                return false;
            }
            markKinds(book);
            countNamings();
            return true;
        }

        private void layPoint(Book book, int p) {
            starts[p] = legs;
            int size = book.sizes[rules[p]];
            for (int k = 0; k < size && legs < MOST_LEGS; k++) {
                legKinds[legs] = book.legKinds[rules[p] * MOST_RULE_LEGS + k];
                legPoints[legs] = p;
                int first = starts[p];
                while (first < legs && legKinds[first] != legKinds[legs]) {
                    first++;
                }
                firsts[legs] = first;
                legs++;
            }
        }

        private void markKinds(Book book) {
            halves = 0;
            seconds = 0;
            for (int i = 0; i < legs; i++) {
                int kindHere = legKinds[i];
                int foe = book.foes[kindHere];
                halves |= book.isHalf(kindHere) ? 1 << i : 0;
                seconds |= foe < kindHere ? 1 << i : 0;
                partners[i] = 0;
                alike[i] = 0;
                for (int j = 0; j < legs; j++) {
                    // Two ends joined would never hang together with a point.
                    if (j != i && legKinds[j] == foe && (i >= ends || j >= ends)) {
                        partners[i] |= 1 << j;
                    }
                    if (firsts[j] == firsts[i]) {
                        alike[i] |= 1 << j;
                    }
                }
            }
        }

        private void countNamings() {
            namings = 1;
            int run = 0;
            for (int p = 0; p < points; p++) {
                run = followsAlike(p) ? run + 1 : 1;
                namings *= run;
            }
            for (int i = ends; i < legs; i++) {
                // How many legs alike stand up to this one: their product over all is that of factorials.
                namings *= Integer.bitCount(alike[i] & ((2 << i) - 1));
            }
        }

        private boolean followsAlike(int p) {
            return p > 0 && p < points && rules[p] == rules[p - 1];
        }

        int allLegs() {
            return (1 << legs) - 1;
        }

        int pointBit(int leg) {
            return legPoints[leg] < 0 ? 0 : 1 << legPoints[leg];
        }

        // A bit for each two points: 0 and 1, 0 and 2, 1 and 2.
        int link(int i, int j) {
            int p = legPoints[i];
            int q = legPoints[j];
            return p < 0 || q < 0 || p == q ? 0 : 1 << (p + q - 1);
        }

        boolean hangs(int links) {
            return Integer.bitCount(links) >= points - 1;
        }

        boolean mayJoin(int i, int j, int left) {
            return (((left & partners[i]) >> j) & 1) != 0;
        }

        // Of legs alike and of points alike only the first that is left can stand in a least row.
        boolean mayLead(int i, int j, int left, int touched) {
            if (!mayJoin(i, j, left) || (left & alike[j] & ((1 << j) - 1)) != 0) {
                return false;
            }
            int q = legPoints[j];
            int seen = touched | pointBit(i);
            return !followsAlike(q) || ((seen >> (q - 1)) & 3) != 0;
        }

        // The sign that a join brings if legs are joined from the lowest on: it crosses
        // the joins of those half legs between, that are left, an odd number of times or not.
        int signOf(int i, int j, int left) {
            if (((halves >> i) & 1) == 0) {
                return 1;
            }
            int between = Integer.bitCount(left & halves & ((1 << j) - 1));
            int turned = (seconds >> i) & 1;
            return (between + turned) % 2 == 0 ? 1 : -1;
        }

        boolean keepsRules(int swap) {
            for (int p = 0; p < MOST_POINTS; p++) {
                int to = SWAPS[swap * MOST_POINTS + p];
                if (p >= points ? to != p : to >= points || rules[to] != rules[p]) {
                    return false;
                }
            }
            return true;
        }

        // Where the legs alike to this one go if points are swapped.
        int swapped(int leg, int swap) {
            int p = legPoints[leg];
            if (p < 0) {
                return leg;
            }
            return starts[SWAPS[swap * MOST_POINTS + p]] + firsts[leg] - starts[p];
        }

        boolean isPairing(long row) {
            int links = 0;
            for (int i = 0; i < legs; i++) {
                int j = partnerIn(row, i);
                if (j >= legs || ((partners[i] >> j) & 1) == 0 || partnerIn(row, j) != i) {
                    return false;
                }
                links |= link(i, j);
            }
            return hangs(links);
        }

        // Rows are held as four bits a leg, leg 0 highest, so that the lesser row is the lesser number.
        static long inRow(int leg, int partner) {
            return (long) partner << (4 * (MOST_LEGS - 1 - leg));
        }

        static int partnerIn(long row, int leg) {
            return (int) (row >> (4 * (MOST_LEGS - 1 - leg))) & 15;
        }
    }

    /** The list of drawings of a meeting and order; drawings of the same rules are a group. */
    private static final class Gallery {
        private final long[] rows = new long[MOST_DRAWINGS];
        private final int[] alikes = new int[MOST_DRAWINGS];
        private final int[] signs = new int[MOST_DRAWINGS];
        private final int[] groupsOf = new int[MOST_DRAWINGS];
        private final int[] cuts = new int[MOST_DRAWINGS];
        private final int[] sides = new int[MOST_DRAWINGS * MOST_CUTS];
        private final int[] sideKinds = new int[MOST_DRAWINGS * MOST_CUTS];
        private final int[] codes = new int[MOST_GROUPS];
        private final int[] legs = new int[MOST_GROUPS];
        private final int[] inners = new int[MOST_GROUPS];
        private final int[] namings = new int[MOST_GROUPS];
        private final int[] heavies = new int[MOST_GROUPS];
        private final int[] worths = new int[MOST_GROUPS];
        private final int[] powers = new int[MOST_GROUPS];
        private final int[] walks = new int[MOST_GROUPS];
        private final boolean[] walked = new boolean[MOST_GROUPS];
        private int order;
        private int size;
        private int groups;
        private boolean full;

        void clear(int newOrder) {
            order = newOrder;
            size = 0;
            groups = 0;
            full = false;
        }

        // The rule of a point: codes have two bits a point, the first highest.
        static int ruleIn(int code, int order, int p) {
            return (code >> (2 * (order - 1 - p))) & 3;
        }

        boolean openGroup(Book book, Layout layout, int code) {
            if (groups >= MOST_GROUPS) {
                return false;
            }
            int worthHere = 1;
            int powersHere = 0;
            for (int p = 0; p < order && p < MOST_POINTS; p++) {
                int ruleHere = layout.rules[p];
                worthHere *= book.worths[ruleHere];
                powersHere += 1 << (2 * (LETTER_COUNT - 1 - book.letterOf[ruleHere]));
            }
            codes[groups] = code;
            legs[groups] = layout.legs;
            inners[groups] = layout.legs / 2 - layout.ends;
            namings[groups] = layout.namings;
            heavies[groups] = 1;
            worths[groups] = worthHere;
            powers[groups] = powersHere;
            walks[groups] = 0;
            walked[groups] = false;
            groups++;
            return true;
        }

        // Puts a drawing into the latest group; without room the list is full from then on.
        void add(long row, int alike, int sign) {
            if (size >= MOST_DRAWINGS || groups == 0) {
                full = true;
                return;
            }
            rows[size] = row;
            alikes[size] = alike;
            signs[size] = sign;
            groupsOf[size] = groups - 1;
            cuts[size] = 0;
            size++;
        }

        // The inner joins of a group's drawings are always of the same kinds.
        void setHeavies(int product) {
            if (groups > 0) {
                heavies[groups - 1] = product;
            }
        }

        void addCut(int bits, int kindOnSide) {
            if (size > 0 && cuts[size - 1] < MOST_CUTS) {
                int place = (size - 1) * MOST_CUTS + cuts[size - 1];
                sides[place] = bits;
                sideKinds[place] = kindOnSide;
                cuts[size - 1]++;
            }
        }

        int groupOf(int i) {
            return groupsOf[i];
        }

        int codeOf(int i) {
            return codes[groupsOf[i]];
        }

        int legsOf(int i) {
            return legs[groupsOf[i]];
        }

        int ways(int i) {
            return alikes[i] > 0 ? namings[groupsOf[i]] / alikes[i] : 0;
        }

        int loops(int i) {
            return inners[groupsOf[i]] - order + 1;
        }

        int ofDrawing(int i, int what) {
            switch (what) {
                case 0:
                    // Namings that leave a pairing alike divide all namings: a share is one by them.
                    return 1;
                case 1:
                    return alikes[i];
                case 2:
                    return signs[i];
                case 3:
                    return loops(i);
                case 4:
                    return cuts[i];
                case 5:
                    return ways(i);
                case 6:
                    return inners[groupsOf[i]];
                default:
                    return NO_INT;
            }
        }

        int ruleOf(int i, int p) {
            return p >= 0 && p < order ? ruleIn(codeOf(i), order, p) : NONE;
        }

        int partnerOf(int i, int leg) {
            return leg >= 0 && leg < legsOf(i) ? Layout.partnerIn(rows[i], leg) : NONE;
        }

        boolean hasCut(int i, int k) {
            return k >= 0 && k < cuts[i];
        }

        int sideOf(int i, int k) {
            return sides[i * MOST_CUTS + k];
        }

        int sideKindOf(int i, int k) {
            return sideKinds[i * MOST_CUTS + k];
        }

        int allWays() {
            int total = 0;
            for (int i = 0; i < size; i++) {
                total += ways(i);
            }
            return total;
        }

        int withoutLoops() {
            int found = 0;
            for (int i = 0; i < size; i++) {
                found += loops(i) == 0 ? 1 : 0;
            }
            return found;
        }

        int withoutCuts() {
            int found = 0;
            for (int i = 0; i < size; i++) {
                found += cuts[i] == 0 ? 1 : 0;
            }
            return found;
        }

        int find(int group, long row) {
            for (int i = 0; i < size; i++) {
                if (groupsOf[i] == group && rows[i] == row) {
                    return i;
                }
            }
            return NO_PAIRING;
        }

        long signedWays(int group) {
            long total = 0;
            for (int i = 0; i < size; i++) {
                if (groupsOf[i] == group) {
                    total += (long) signs[i] * ways(i);
                }
            }
            return total;
        }

        long divisor(int group) {
            return (long) namings[group] * heavies[group];
        }
    }

    /** Finds the drawings of a meeting, and goes through its pairings. */
    private static final class Lister {
        private final Layout layout = new Layout();
        // How many joins there are between legs alike to one and legs alike to another.
        private final int[] joins = new int[MOST_LEGS * MOST_LEGS];
        // What is found is listed here; it becomes the list if there is room for all.
        private Gallery gallery = new Gallery();

        // False if there are more drawings than there is room for.
        boolean fill(Book book, Ends ends, int order) {
            gallery.clear(order);
            int codes = 1 << (2 * order);
            for (int code = 0; code < codes && !gallery.full; code++) {
                if (layout.lay(book, ends, order, code) && gallery.openGroup(book, layout, code)) {
                    draw(book, layout.allLegs(), 0, 0L, 1, 0);
                }
            }
            return !gallery.full;
        }

        // Joins the lowest leg that is left in every way that can begin a least row.
        private void draw(Book book, int left, int touched, long row, int sign, int depth) {
            if (left == 0) {
                keepIfLeast(book, row, sign);
                return;
            }
            if (depth >= MOST_JOINS || gallery.full) {
                return;
            }
            int i = Integer.numberOfTrailingZeros(left);
            int others = left & (left - 1);
            for (int j = i + 1; j < layout.legs; j++) {
                if (layout.mayLead(i, j, others, touched)) {
                    draw(book, others & ~(1 << j),
                            touched | layout.pointBit(i) | layout.pointBit(j),
                            row | Layout.inRow(i, j) | Layout.inRow(j, i),
                            sign * layout.signOf(i, j, others), depth + 1);
                }
            }
        }

        private void keepIfLeast(Book book, long row, int sign) {
            int links = linksOf(row);
            if (!layout.hangs(links)) {
                return;
            }
            int fixed = 0;
            int alike = 1;
            for (int swap = 0; swap < Layout.SWAP_COUNT; swap++) {
                if (layout.keepsRules(swap)) {
                    alike = tally(row, swap);
                    long other = leastTallied();
                    if (other < row) {
                        return;
                    }
                    fixed += other == row ? 1 : 0;
                }
            }
            gallery.add(row, fixed * alike, sign);
            if (!gallery.full) {
                gallery.setHeavies(heaviesOf(book, row));
                findCuts(row, links);
            }
        }

        // Counts the joins of a row with its points swapped; answers how many orders of
        // legs alike leave the row as it is.
        private int tally(long row, int swap) {
            int alike = 1;
            for (int i = 0; i < layout.legs; i++) {
                int j = Layout.partnerIn(row, i);
                if (j > i) {
                    int a = layout.swapped(layout.firsts[i], swap);
                    int b = layout.swapped(layout.firsts[j], swap);
                    joins[a * MOST_LEGS + b]++;
                    alike *= joins[a * MOST_LEGS + b];
                    if (a == b) {
                        alike *= 2;
                    } else {
                        joins[b * MOST_LEGS + a]++;
                    }
                }
            }
            return alike;
        }

        // The least row with the joins that were counted; uses them up.
        private long leastTallied() {
            int left = layout.allLegs();
            long row = 0;
            for (int i = 0; i < layout.legs; i++) {
                int j = ((left >> i) & 1) != 0 ? firstTallied(i, left) : NONE;
                if (j != NONE) {
                    int a = layout.firsts[i];
                    int b = layout.firsts[j];
                    joins[a * MOST_LEGS + b]--;
                    if (a != b) {
                        joins[b * MOST_LEGS + a]--;
                    }
                    left &= ~((1 << i) | (1 << j));
                    row |= Layout.inRow(i, j) | Layout.inRow(j, i);
                }
            }
            return row;
        }

        private int firstTallied(int i, int left) {
            for (int j = i + 1; j < layout.legs; j++) {
                if (((left >> j) & 1) != 0
                        && joins[layout.firsts[i] * MOST_LEGS + layout.firsts[j]] > 0) {
                    return j;
                }
            }
            return NONE;
        }

        private int linksOf(long row) {
            int links = 0;
            for (int i = layout.ends; i < layout.legs; i++) {
                links |= layout.link(i, Layout.partnerIn(row, i));
            }
            return links;
        }

        private int heaviesOf(Book book, long row) {
            int product = 1;
            for (int i = layout.ends; i < layout.legs; i++) {
                if (Layout.partnerIn(row, i) > i) {
                    product *= book.heavies[layout.legKinds[i]];
                }
            }
            return product;
        }

        private void findCuts(long row, int links) {
            int doubled = doubledLinks(row);
            for (int i = layout.ends; i < layout.legs; i++) {
                int j = Layout.partnerIn(row, i);
                int link = layout.link(i, j);
                if (j > i && link != 0 && (doubled & link) == 0 && !layout.hangs(links & ~link)) {
                    int reached = reach(row, links & ~link);
                    int onSide = (reached & layout.pointBit(i)) != 0 ? i : j;
                    gallery.addCut(endsAt(row, reached), layout.legKinds[onSide]);
                }
            }
        }

        private int doubledLinks(long row) {
            int once = 0;
            int twice = 0;
            for (int i = layout.ends; i < layout.legs; i++) {
                int j = Layout.partnerIn(row, i);
                if (j > i) {
                    int link = layout.link(i, j);
                    twice |= once & link;
                    once |= link;
                }
            }
            return twice;
        }

        // The points that hang together with end 0 by these links.
        private int reach(long row, int links) {
            int reached = layout.pointBit(Layout.partnerIn(row, 0));
            for (int round = 1; round < MOST_POINTS; round++) {
                for (int link = 0; link < MOST_POINTS; link++) {
                    int two = link == 0 ? 3 : link == 1 ? 5 : 6;
                    if (((links >> link) & 1) != 0 && (reached & two) != 0) {
                        reached |= two;
                    }
                }
            }
            return reached;
        }

        private int endsAt(long row, int reached) {
            int bits = 0;
            for (int i = 0; i < layout.ends; i++) {
                if ((layout.pointBit(Layout.partnerIn(row, i)) & reached) != 0) {
                    bits |= 1 << i;
                }
            }
            return bits;
        }

        // The least row of a row's drawing; -1 if it is no pairing of these rules.
        long leastOf(Book book, Ends ends, int order, int code, long row) {
            if (!layout.lay(book, ends, order, code) || !layout.isPairing(row)) {
                return -1L;
            }
            long least = row;
            for (int swap = 0; swap < Layout.SWAP_COUNT; swap++) {
                if (layout.keepsRules(swap)) {
                    tally(row, swap);
                    least = Math.min(least, leastTallied());
                }
            }
            return least;
        }

        // Goes through the pairings of the groups with these powers, once for each list.
        void walkAll(Book book, Ends ends, Gallery of, int powers) {
            for (int g = 0; g < of.groups; g++) {
                if (of.powers[g] == powers && !of.walked[g]
                        && layout.lay(book, ends, of.order, of.codes[g])) {
                    of.walks[g] = walk(layout.allLegs(), 0, 0);
                    of.walked[g] = true;
                }
            }
        }

        // The signs of all pairings of the legs that are left, together. Each is gone through for
        // itself, so that this stands on nothing that the list of drawings stands on.
        private int walk(int left, int links, int depth) {
            if (left == 0) {
                return layout.hangs(links) ? 1 : 0;
            }
            if (depth >= MOST_JOINS) {
                return 0;
            }
            int i = Integer.numberOfTrailingZeros(left);
            int others = left & (left - 1);
            int total = 0;
            for (int j = i + 1; j < layout.legs; j++) {
                if (layout.mayJoin(i, j, others)) {
                    total += layout.signOf(i, j, others)
                            * walk(others & ~(1 << j), links | layout.link(i, j), depth + 1);
                }
            }
            return total;
        }
    }

    /** A worth by its rests, and the fraction that has them. */
    private static final class Reckoning {
        private static final int[] PRIMES = {1000003, 1000033, 1000037, 1000039};
        private static final int PRIME_COUNT = 4;
        private static final long MOST = 500000000L;

        private final long[] rests = new long[PRIME_COUNT];
        private final long[] below = new long[PRIME_COUNT];
        private int pole = NONE;
        private boolean lost;
        private long numerator;
        private long denominator;

        void clear() {
            for (int k = 0; k < PRIME_COUNT; k++) {
                rests[k] = 0;
            }
            pole = NONE;
            lost = false;
        }

        // A side of 0 takes all drawings without loops, each with all of its joins.
        void addWorths(Gallery list, Book book, Ends ends, int[] letters, int side, int sideKind) {
            for (int i = 0; i < list.size; i++) {
                int cut = side == 0 ? NONE : findCut(list, i, side, sideKind);
                if (list.loops(i) == 0 && (side == 0 || cut != NONE)) {
                    divideByJoins(list, i, book, ends, cut);
                    addTerm(list.signs[i] * above(list, i, letters));
                }
            }
        }

        private static int findCut(Gallery list, int i, int side, int sideKind) {
            for (int k = 0; k < list.cuts[i]; k++) {
                if (list.sideOf(i, k) == side && list.sideKindOf(i, k) == sideKind) {
                    return k;
                }
            }
            return NONE;
        }

        // Without loops every inner join is a cut.
        private void divideByJoins(Gallery list, int i, Book book, Ends ends, int without) {
            for (int k = 0; k < PRIME_COUNT; k++) {
                below[k] = list.alikes[i];
            }
            for (int cut = 0; cut < list.cuts[i]; cut++) {
                if (cut != without) {
                    long flow = ends.flow(list.sideOf(i, cut));
                    long heavy = book.heavies[list.sideKindOf(i, cut)];
                    long by = flow * flow - heavy * heavy;
                    if (by == 0 && pole == NONE) {
                        pole = list.sideOf(i, cut);
                    }
                    for (int k = 0; k < PRIME_COUNT; k++) {
                        long prime = PRIMES[k];
                        below[k] = below[k] * Math.floorMod(by, prime) % prime;
                    }
                }
            }
        }

        private static long above(Gallery list, int i, int[] letters) {
            int group = list.groupOf(i);
            long product = list.worths[group];
            for (int l = 0; l < LETTER_COUNT && l < letters.length; l++) {
                int power = (list.powers[group] >> (2 * (LETTER_COUNT - 1 - l))) & 3;
                for (int n = 0; n < power; n++) {
                    product *= letters[l];
                }
            }
            return product;
        }

        private void addTerm(long top) {
            for (int k = 0; k < PRIME_COUNT; k++) {
                long prime = PRIMES[k];
                if (below[k] == 0) {
                    lost = true;
                }
                long term = Math.floorMod(top, prime) * inverse(below[k], prime) % prime;
                rests[k] = (rests[k] + term) % prime;
            }
        }

        void addProduct(Reckoning one, Reckoning other) {
            if (pole == NONE) {
                pole = one.pole != NONE ? one.pole : other.pole;
            }
            lost = lost || one.lost || other.lost;
            for (int k = 0; k < PRIME_COUNT; k++) {
                rests[k] = (rests[k] + one.rests[k] * other.rests[k]) % PRIMES[k];
            }
        }

        int restBy(int k) {
            return k >= 0 && k < PRIME_COUNT ? (int) rests[k] : NONE;
        }

        // By a prime: the power two below it.
        private static long inverse(long number, long prime) {
            if (prime < 2) {
                return 0;
            }
            long result = 1;
            long square = number % prime;
            for (long power = prime - 2; power > 0; power >>= 1) {
                if ((power & 1) != 0) {
                    result = result * square % prime;
                }
                square = square * square % prime;
            }
            return result;
        }

        // Euclid's steps from the product of three primes; the first remainder that is small
        // enough belongs to the only fraction that can be.
        boolean findFraction() {
            if (lost) {
                return false;
            }
            long older = (long) PRIMES[0] * PRIMES[1] * PRIMES[2];
            long newer = joinedRests();
            long olderBy = 0;
            long newerBy = 1;
            for (int step = 0; step < 100 && newer > MOST; step++) {
                long times = older / newer;
                long next = older - times * newer;
                long nextBy = olderBy - times * newerBy;
                older = newer;
                newer = next;
                olderBy = newerBy;
                newerBy = nextBy;
            }
            return newer <= MOST && takeFraction(newerBy < 0 ? -newer : newer, Math.abs(newerBy));
        }

        private boolean takeFraction(long top, long bottom) {
            if (bottom < 1 || bottom > MOST || divisorOf(Math.abs(top), bottom) != 1) {
                return false;
            }
            long prime = PRIMES[3];
            if (Math.floorMod(top - bottom * rests[3], prime) != 0) {
                return false;
            }
            numerator = top;
            denominator = bottom;
            return true;
        }

        // The number below the product of the first three primes that has their rests.
        private long joinedRests() {
            long first = PRIMES[0];
            long second = PRIMES[1];
            long third = PRIMES[2];
            long one = Math.floorMod((rests[1] - rests[0]) * inverse(first, second), second);
            long two = rests[0] + first * one;
            long product = first * second;
            long last = Math.floorMod(rests[2] - two, third) * inverse(product, third) % third;
            return two + product * last;
        }

        private static long divisorOf(long a, long b) {
            long one = a;
            long other = b;
            for (int step = 0; step < 100 && other != 0; step++) {
                long left = one % other;
                one = other;
                other = left;
            }
            return one;
        }
    }

    /** A sum of fractions whose divisors have no prime above 97, without any rounding. */
    private static final class ExactSum {
        private static final int[] PRIMES = {
            2, 3, 5, 7, 11, 13, 17, 19, 23, 29, 31, 37, 41, 43, 47, 53, 59, 61, 67, 71, 73, 79, 83, 89, 97
        };
        private static final int PRIME_COUNT = 25;
        private static final int LIMBS = 12;
        private static final int LIMB_BITS = 30;
        private static final long LIMB_MASK = (1L << LIMB_BITS) - 1;
        private static final long MOST = 900000000000000000L;

        private final int[] exponents = new int[PRIME_COUNT];
        private final long[] limbs = new long[LIMBS];
        private final long[] term = new long[LIMBS];
        private boolean fits;
        private long numerator;
        private long denominator;

        void clear() {
            for (int i = 0; i < PRIME_COUNT; i++) {
                exponents[i] = 0;
            }
            for (int i = 0; i < LIMBS; i++) {
                limbs[i] = 0;
            }
        }

        // Makes the common divisor one that this divisor divides, too.
        void widen(long divisor) {
            for (int i = 0; i < PRIME_COUNT; i++) {
                exponents[i] = Math.max(exponents[i], exponentOf(PRIMES[i], divisor));
            }
        }

        void add(long top, long divisor) {
            if (top == 0) {
                return;
            }
            long size = Math.abs(top);
            for (int i = 0; i < LIMBS; i++) {
                term[i] = size & LIMB_MASK;
                size >>= LIMB_BITS;
            }
            for (int i = 0; i < PRIME_COUNT; i++) {
                for (int n = exponentOf(PRIMES[i], divisor); n < exponents[i]; n++) {
                    multiplyTerm(PRIMES[i]);
                }
            }
            for (int i = 0; i < LIMBS; i++) {
                limbs[i] += top < 0 ? -term[i] : term[i];
            }
        }

        void reduce() {
            boolean below = carryOver(false) < 0;
            for (int i = 0; i < LIMBS && below; i++) {
                limbs[i] = -limbs[i];
            }
            carryOver(true);
            for (int i = 0; i < PRIME_COUNT; i++) {
                while (exponents[i] > 0 && isDivisible(PRIMES[i])) {
                    divide(PRIMES[i]);
                    exponents[i]--;
                }
            }
            long top = numeratorSize();
            numerator = below ? -top : top;
            denominator = top == 0 ? 1 : denominatorSize();
            fits = top <= MOST && denominator <= MOST;
        }

        private static int exponentOf(int prime, long number) {
            int exponent = 0;
            long left = number;
            while (left > 0 && exponent < 64 && left % prime == 0) {
                left /= prime;
                exponent++;
            }
            return exponent;
        }

        private void multiplyTerm(int by) {
            long carry = 0;
            for (int i = 0; i < LIMBS; i++) {
                carry += term[i] * by;
                term[i] = carry & LIMB_MASK;
                carry >>= LIMB_BITS;
            }
        }

        // The carry above all limbs tells the sign of the whole; they are only changed if asked for.
        private long carryOver(boolean change) {
            long carry = 0;
            for (int i = 0; i < LIMBS; i++) {
                carry += limbs[i];
                if (change) {
                    limbs[i] = carry & LIMB_MASK;
                }
                carry >>= LIMB_BITS;
            }
            return carry;
        }

        private boolean isDivisible(int by) {
            long left = 0;
            for (int i = LIMBS - 1; i >= 0; i--) {
                left = ((left << LIMB_BITS) + limbs[i]) % by;
            }
            return left == 0;
        }

        private void divide(int by) {
            long left = 0;
            for (int i = LIMBS - 1; i >= 0; i--) {
                left = (left << LIMB_BITS) + limbs[i];
                limbs[i] = left / by;
                left %= by;
            }
        }

        // Beyond two limbs it is beyond the most that is told, whatever it is.
        private long numeratorSize() {
            for (int i = 2; i < LIMBS; i++) {
                if (limbs[i] != 0) {
                    return MOST + 1;
                }
            }
            return (limbs[1] << LIMB_BITS) + limbs[0];
        }

        private long denominatorSize() {
            long product = 1;
            for (int i = 0; i < PRIME_COUNT; i++) {
                for (int n = 0; n < exponents[i]; n++) {
                    if (product > MOST / PRIMES[i]) {
                        return MOST + 1;
                    }
                    product *= PRIMES[i];
                }
            }
            return product;
        }
    }
}
