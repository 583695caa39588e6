import java.util.NoSuchElementException;
import java.util.Random;

/**
 * Runs of calls with arguments from a seeded source, each answered by the class and by the
 * plain model of the document; and texts of books with small faults put into them.
 */
final class ModelTest {
    // An object answers 512 calls; a run ends ahead of that, as what it asks last may be some hundred.
    private static final int MOST_CALLS = 380;
    private static final String[] NAMES = {"e", "f", "g", "h", "ab", "abcdefgh", "k", "a", "b", "by", "own", "x"};

    private final Checks checks = new Checks("ModelTest");
    private final Random random;
    private DrawnWays x;
    private Model m;
    private String run;
    private int kinds;
    private int asked;

    private ModelTest(long seed) {
        random = new Random(seed);
    }

    public static void main(String[] args) {
        int runs = Integer.getInteger("runs", 1600);
        ModelTest test = new ModelTest(Long.getLong("seed", 20261118L));
        for (int i = 0; i < runs; i++) {
            test.runOf(i);
        }
        for (int i = 0; i < 10 * runs; i++) {
            test.spoiltText();
        }
        test.checks.end();
    }

    private int below(int n) {
        return random.nextInt(n);
    }

    private boolean oneIn(int n) {
        return random.nextInt(n) == 0;
    }

    // ---- texts

    private String text() {
        StringBuilder out = new StringBuilder();
        boolean allOwn = oneIn(3);
        int lines = allOwn ? 1 + below(3) : 1 + below(oneIn(3) ? 4 : 2);
        int many = 0;
        int[] marks = new int[20];
        int[] sorts = new int[20];
        int heavyMost = oneIn(3) ? 99 : 5;
        for (int l = 0; l < lines && many < 8; l++) {
            int sort = many == 7 || allOwn ? 0 : below(3);
            out.append(out.length() == 0 ? "" : ";");
            int heavy = 1 + below(heavyMost);
            if (sort == 0) {
                out.append("own n").append((char) ('a' + many)).append(' ').append(heavy);
                many++;
            } else {
                int mark = oneIn(2) ? 0 : below(5) - 2;
                out.append(sort == 1 ? "pair n" : "half n").append((char) ('a' + many)).append(" n")
                        .append((char) ('b' + many)).append(' ').append(heavy).append(' ').append(mark);
                sorts[many] = sort;
                sorts[many + 1] = sort;
                marks[many] = mark;
                marks[many + 1] = -mark;
                many += 2;
            }
        }
        int rules = oneIn(3) ? 4 : 1 + below(4);
        for (int tries = 0; tries < 200 && rules > 0; tries++) {
            int size = oneIn(3) ? 4 : 3;
            int[] legs = new int[size];
            for (int k = 0; k < size; k++) {
                legs[k] = below(many);
            }
            if (fits(legs, marks, sorts)) {
                rules--;
                out.append(";meet");
                for (int k : legs) {
                    out.append(" n").append((char) ('a' + k));
                }
                int worth = oneIn(3) ? 1 + below(99) : 1 + below(4);
                out.append(" by ").append(oneIn(2) ? worth : -worth).append(' ')
                        .append((char) ('a' + (oneIn(2) ? 0 : below(3))));
            }
        }
        kinds = many;
        return out.length() > 400 ? out.substring(0, out.indexOf(";")) : out.toString();
    }

    private static boolean fits(int[] legs, int[] marks, int[] sorts) {
        int sum = 0;
        int halves = 0;
        for (int i = 0; i < legs.length; i++) {
            sum += marks[legs[i]];
            halves += sorts[legs[i]] == 2 ? 1 : 0;
            for (int j = 0; j < i; j++) {
                if (legs[i] == legs[j] && sorts[legs[i]] == 2) {
                    return false;
                }
            }
        }
        return sum == 0 && halves % 2 == 0;
    }

    private void spoiltText() {
        StringBuilder text = new StringBuilder();
        String[] parts = {"own", "pair", "half", "meet", "by", ";", "-", "1", "3", "99", "100", "0", "1234", "a", "b", "d",
            "abcdefgh", "abcdefghi", "e", "f", "e", "f", "own e 3", "pair e f 2 1", "half e f 2 1", "own a 1; own b 2",
            "meet e e e by 1 a", "meet e f a by -9 b", "meet a a b by 5 c", "meet a a a a a by 1 a", "A", "\u0080", "\u0000",
            "by", "by 1", "by - 1 a", "meet a a a by 2 a;", "9", "10", "-10", "- 9",
            "own e 1;own f 1;own g 1;own h 1;own i 1;own j 1;own k 1;own l 1;"};
        if (oneIn(2)) {
            text.append(text());
            for (int n = 1 + below(2); n > 0 && text.length() > 0; n--) {
                int at = below(text.length());
                if (oneIn(2)) {
                    text.insert(at, (oneIn(2) ? " " : "") + parts[below(parts.length)] + (oneIn(2) ? " " : ""));
                } else {
                    text.delete(at, Math.min(text.length(), at + 1 + below(4)));
                }
            }
        } else {
            for (int n = below(12); n > 0; n--) {
                text.append(parts[below(parts.length)]).append(oneIn(8) ? "" : " ");
                text.append(oneIn(3) ? "; " : "");
            }
        }
        if (text.length() > 400) {
            text.setLength(400);
        }
        x = new DrawnWays();
        m = new Model();
        run = "text \"" + text + "\": ";
        readBoth(text.toString());
        for (int i = -1; i < 9; i++) {
            for (int what = -1; what < 8; what++) {
                due("kind(" + i + ", " + what + ")", x.kind(i, what), m.kind(i, what));
                due("rule(" + i + ", " + what + ")", x.rule(i, what), m.rule(i, what));
            }
        }
    }

    private void readBoth(String text) {
        int[] five = new int[5];
        due("book(0)", x.book(0), m.book(0));
        for (int from = 0; from < text.length(); from += 20) {
            Checks.twenty(text, from, five);
            due("feed", x.feed(five[0], five[1], five[2], five[3], five[4]),
                    m.feed(five[0], five[1], five[2], five[3], five[4]));
        }
        due("count(7)", x.count(7), m.count(7));
        due("book(" + text.length() + ")", x.book(text.length()), m.book(text.length()));
        afterCall();
    }

    // ---- runs

    private void due(String call, long got, long want) {
        asked++;
        if (got != want) {
            checks.due(run + call, got, want);
        } else {
            checks.due(call, got, want);
        }
    }

    private void due(String call, boolean got, boolean want) {
        due(call, got ? 1 : 0, want ? 1 : 0);
    }

    private void afterCall() {
        due("trouble()", x.trouble(), m.trouble());
        due("where()", x.where(), m.where());
        due("fault()", x.fault(), m.fault());
        due("pole()", x.pole(), m.pole());
        due("worth(false)", x.worth(false), m.worth(false));
        due("worth(true)", x.worth(true), m.worth(true));
        for (int k = 0; k < 4; k++) {
            due("rest(" + k + ")", x.rest(k), m.rest(k));
        }
        for (int what = -1; what < 9; what++) {
            due("count(" + what + ")", x.count(what), m.count(what));
        }
    }

    private void runOf(int number) {
        x = new DrawnWays();
        m = new Model();
        asked = 0;
        String text = text();
        run = "run " + number + " \"" + text + "\": ";
        // Calls ahead of any BOOK, so that every one is also asked without it.
        for (int c = oneIn(4) ? below(12) : below(3); c > 0 && asked < MOST_CALLS / 2; c--) {
            call();
            afterCall();
        }
        readBoth(text);
        while (asked < MOST_CALLS) {
            call();
            afterCall();
        }
    }

    private int endKind() {
        return oneIn(60) ? below(12) - 2 : below(Math.max(1, kinds));
    }

    private void meet() {
        int size = oneIn(20) ? below(7) : 2 + below(5);
        int[] e = new int[6];
        for (int tries = 0; tries < 30; tries++) {
            int[] used = new int[size];
            for (int i = 0; i < 6; i++) {
                e[i] = i < size ? endKind() : -1;
                if (i < size) {
                    used[i] = e[i];
                }
            }
            boolean there = m.book != null;
            for (int k : used) {
                there = there && k >= 0 && k < m.book.kinds.size();
            }
            if (!there || m.book.even(used) || oneIn(20)) {
                break;
            }
        }
        String call = "meeting(" + e[0] + "," + e[1] + "," + e[2] + "," + e[3] + "," + e[4] + "," + e[5] + ")";
        run += call + " ";
        due(call, x.meeting(e[0], e[1], e[2], e[3], e[4], e[5]), m.meeting(e[0], e[1], e[2], e[3], e[4], e[5]));
    }

    private int order() {
        return oneIn(15) ? below(6) - 1 : oneIn(2) ? 2 : 1 + below(3);
    }

    private void call() {
        switch (below(14)) {
            case 0 -> meet();
            case 1 -> list();
            case 2, 3 -> lookAtDrawings();
            case 4 -> lookAtRows();
            case 5 -> lookAtSums();
            case 6 -> tellNumbers();
            case 7 -> tellNumber();
            case 8 -> tellLetter();
            case 9, 10 -> {
                int order = order();
                run += "at(" + order + ") ";
                due("at(" + order + ")", x.at(order), m.at(order));
            }
            case 11, 12 -> cutAt();
            default -> {
                if (oneIn(15)) {
                    String text = text();
                    run += "book(" + text + ") ";
                    readBoth(text);
                }
                meet();
                afterCall();
                list();
            }
        }
    }

    private void list() {
        int order = order();
        run += "drawings(" + order + ") ";
        due("drawings(" + order + ")", x.drawings(order), m.drawings(order));
    }

    private void lookAtDrawings() {
        due("pairings()", x.pairings(), m.pairings());
        int size = Math.max(0, m.count(3));
        for (int n = 0; n < 2; n++) {
            int i = below(size + 2) - (oneIn(9) ? 1 : 0);
            for (int what = -1; what < 8; what++) {
                due("drawing(" + i + ", " + what + ")", x.drawing(i, what), m.drawing(i, what));
            }
            for (int p = -1; p < 4; p++) {
                due("point(" + i + ", " + p + ")", x.point(i, p), m.point(i, p));
            }
            for (int leg = -1; leg < 14; leg++) {
                due("joined(" + i + ", " + leg + ")", x.joined(i, leg), m.joined(i, leg));
            }
            for (int k = -1; k < 4; k++) {
                due("side(" + i + ", " + k + ")", Checks.side(x, i, k), sideOfModel(i, k));
            }
        }
    }

    private int sideOfModel(int i, int k) {
        try {
            return m.side(i, k);
        } catch (NoSuchElementException e) {
            return Checks.NO_SIDE;
        }
    }

    private void lookAtRows() {
        int size = Math.max(0, m.count(3));
        for (int n = 0; n < 8; n++) {
            int i = below(size + 1) - (oneIn(9) ? 1 : 0);
            int[] row = new int[12];
            if (i >= 0 && i < size) {
                Model.Group g = m.list.groupOf.get(i);
                int[] of = g.pairings.get(below(g.pairings.size()));
                System.arraycopy(of, 0, row, 0, of.length);
                for (int k = of.length; k < 12; k++) {
                    row[k] = oneIn(2) ? 0 : below(100);
                }
                if (oneIn(4)) {
                    row[below(12)] = below(14) - 1;
                }
                if (oneIn(6)) {
                    swapPartners(row, below(of.length), below(of.length));
                }
            }
            int[] v = new int[6];
            for (int k = 0; k < 6; k++) {
                v[k] = oneIn(60) ? random.nextInt() : row[2 * k] * 100 + row[2 * k + 1];
            }
            due("same(" + i + ",..)", x.same(i, v[0], v[1], v[2], v[3], v[4], v[5]),
                    m.same(i, v[0], v[1], v[2], v[3], v[4], v[5]));
        }
    }

    private static void swapPartners(int[] row, int i, int j) {
        int a = row[i];
        int b = row[j];
        if (a >= 0 && b >= 0 && a < 12 && b < 12 && a != j && i != j) {
            row[i] = b;
            row[b] = i;
            row[j] = a;
            row[a] = j;
        }
    }

    private void lookAtSums() {
        int order = m.count(4);
        for (int a = 0; a <= order; a++) {
            for (int b = 0; a + b <= order; b++) {
                int c = order - a - b;
                for (int d = 0; d < 2; d++) {
                    String powers = "(" + a + ", " + b + ", " + c + ", " + d + ")";
                    due("sum" + powers, x.sum(a, b, c, d == 1), m.sum(a, b, c, d == 1));
                    due("byPairings" + powers, x.byPairings(a, b, c, d == 1), m.byPairings(a, b, c, d == 1));
                }
            }
        }
        int a = below(6) - 1;
        int b = below(3) - 1;
        due("sum", x.sum(a, b, 0, false), m.sum(a, b, 0, false));
        due("byPairings", x.byPairings(a, 0, b, true), m.byPairings(a, 0, b, true));
    }

    private void tellNumbers() {
        int most = new int[] {3, 9, 60, 999}[below(4)];
        int total = 0;
        int size = m.count(2);
        for (int i = 0; i < size; i++) {
            int v = i == size - 1 ? -total : below(2 * most + 1) - most;
            total += v;
            run += "number(" + i + "," + v + ") ";
            due("number(" + i + ", " + v + ")", x.number(i, v), m.number(i, v));
        }
    }

    private void tellNumber() {
        int end = below(8) - 1;
        int v = oneIn(2) ? below(2003) - 1001 : 0;
        run += "number(" + end + "," + v + ") ";
        due("number(" + end + ", " + v + ")", x.number(end, v), m.number(end, v));
    }

    private void tellLetter() {
        int l = below(5) - 1;
        int v = oneIn(8) ? below(300) - 150 : below(9) - 3;
        run += "letter(" + l + "," + v + ") ";
        due("letter(" + l + ", " + v + ")", x.letter(l, v), m.letter(l, v));
    }

    private void cutAt() {
        int size = m.count(2);
        int side = below(1 << Math.max(1, size)) | (oneIn(9) ? 0 : 1);
        if (size > 3 && Integer.bitCount(side) < 2 && !oneIn(5)) {
            side |= 2 << below(size - 1);
        }
        int kind = endKind();
        int order = oneIn(15) ? below(6) - 1 : 2 + below(2);
        String args = "(" + side + "," + kind + "," + order + ")";
        run += "parted" + args + " ";
        due("parted" + args, x.parted(side, kind, order), m.parted(side, kind, order));
        afterCall();
        if (m.trouble() == 0 && oneIn(2)) {
            // At a pole of the whole the parts can still be told.
            run += "at(" + order + ") ";
            due("at(" + order + ")", x.at(order), m.at(order));
            afterCall();
        }
        run += "whole" + args + " ";
        due("whole" + args, x.whole(side, kind, order), m.whole(side, kind, order));
    }
}
