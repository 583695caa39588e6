import java.math.BigInteger;
import java.util.ArrayList;
import java.util.Arrays;
import java.util.HashMap;
import java.util.List;
import java.util.Map;
import java.util.NoSuchElementException;
import java.util.TreeMap;
import java.util.regex.Matcher;
import java.util.regex.Pattern;

/**
 * The document once more, in the plainest way and without a thought of cost: every pairing and
 * every naming is gone through for itself, and fractions are exact. Tests compare with it.
 */
final class Model {
    static final int[] PRIMES = {1000003, 1000033, 1000037, 1000039};
    static final BigInteger WORTH_MOST = BigInteger.valueOf(500_000_000L);
    static final BigInteger SUM_MOST = BigInteger.valueOf(900_000_000_000_000_000L);

    // ---- fractions

    record Fraction(BigInteger top, BigInteger bottom) {
        static final Fraction ZERO = new Fraction(BigInteger.ZERO, BigInteger.ONE);

        static Fraction of(BigInteger top, BigInteger bottom) {
            BigInteger divisor = top.gcd(bottom);
            if (bottom.signum() < 0) {
                divisor = divisor.negate();
            }
            return new Fraction(top.divide(divisor), bottom.divide(divisor));
        }

        static Fraction of(long top, long bottom) {
            return of(BigInteger.valueOf(top), BigInteger.valueOf(bottom));
        }

        Fraction plus(Fraction other) {
            return of(top.multiply(other.bottom).add(other.top.multiply(bottom)), bottom.multiply(other.bottom));
        }

        Fraction times(Fraction other) {
            return of(top.multiply(other.top), bottom.multiply(other.bottom));
        }

        boolean within(BigInteger most) {
            return top.abs().compareTo(most) <= 0 && bottom.compareTo(most) <= 0;
        }

        int rest(int prime) {
            BigInteger p = BigInteger.valueOf(prime);
            return top.multiply(bottom.modInverse(p)).mod(p).intValueExact();
        }
    }

    // ---- the book

    static final class Fault extends Exception {
        final int number;
        final int place;

        Fault(int number, int place) {
            this.number = number;
            this.place = place;
        }
    }

    record Kind(String name, int foe, int heavy, int mark, int sort) { }

    record Rule(int[] legs, int worth, int letter) { }

    static final class Book {
        final List<Kind> kinds = new ArrayList<>();
        final List<Rule> rules = new ArrayList<>();
        private final String text;
        private int next;
        private String token;
        private int place;

        Book(String text) throws Fault {
            this.text = text;
            step();
            line();
            while (!token.isEmpty()) {
                if (!token.equals(";")) {
                    throw new Fault(1, place);
                }
                step();
                line();
            }
        }

        private void step() {
            while (next < text.length() && text.charAt(next) == ' ') {
                next++;
            }
            place = next;
            Matcher m = Pattern.compile("[a-z]+|[0-9]+|;|-").matcher(text).region(next, text.length());
            if (next == text.length()) {
                token = "";
            } else if (m.lookingAt()) {
                token = m.group();
                next = m.end();
            } else {
                token = "?";
                next++;
            }
        }

        private boolean isWord() {
            return token.matches("[a-z]{1,8}");
        }

        private String name() throws Fault {
            if (!isWord() || List.of("own", "pair", "half", "meet", "by").contains(token)) {
                throw new Fault(1, place);
            }
            return token;
        }

        private int find(String name) {
            for (int i = 0; i < kinds.size(); i++) {
                if (kinds.get(i).name.equals(name)) {
                    return i;
                }
            }
            return -1;
        }

        private int whole() throws Fault {
            if (!token.matches("[0-9]{1,3}")) {
                throw new Fault(1, place);
            }
            return Integer.parseInt(token);
        }

        private int heavy() throws Fault {
            int value = whole();
            if (value < 1 || value > 99) {
                throw new Fault(4, place);
            }
            step();
            return value;
        }

        private int signed(int most, boolean zero) throws Fault {
            int from = place;
            boolean minus = token.equals("-");
            if (minus) {
                step();
            }
            int value = whole();
            if (value > most || (value == 0 && !zero)) {
                throw new Fault(4, from);
            }
            step();
            return minus ? -value : value;
        }

        private void line() throws Fault {
            switch (token) {
                case "own" -> {
                    step();
                    String name = fresh("", 0);
                    step();
                    kinds.add(new Kind(name, kinds.size(), heavy(), 0, 0));
                }
                case "pair", "half" -> {
                    int sort = token.equals("pair") ? 1 : 2;
                    step();
                    String one = fresh("", 0);
                    step();
                    String two = fresh(one, 1);
                    step();
                    int heavy = heavy();
                    int mark = signed(9, true);
                    int i = kinds.size();
                    kinds.add(new Kind(one, i + 1, heavy, mark, sort));
                    kinds.add(new Kind(two, i, heavy, -mark, sort));
                }
                case "meet" -> meet();
                default -> throw new Fault(1, place);
            }
        }

        private String fresh(String other, int more) throws Fault {
            String name = name();
            if (find(name) >= 0 || name.equals(other)) {
                throw new Fault(3, place);
            }
            if (kinds.size() + more >= 8) {
                throw new Fault(6, place);
            }
            return name;
        }

        private void meet() throws Fault {
            int from = place;
            if (rules.size() == 4) {
                throw new Fault(6, from);
            }
            step();
            List<Integer> legs = new ArrayList<>();
            while (legs.size() < 3 || !token.equals("by")) {
                int kind = find(name());
                if (kind < 0) {
                    throw new Fault(2, place);
                }
                if (legs.size() == 4) {
                    throw new Fault(6, place);
                }
                legs.add(kind);
                step();
            }
            step();
            int worth = signed(99, false);
            if (!isWord()) {
                throw new Fault(1, place);
            }
            int letter = List.of("a", "b", "c").indexOf(token);
            if (letter < 0) {
                throw new Fault(4, place);
            }
            boolean twice = legs.stream().anyMatch(k -> kinds.get(k).sort == 2
                    && legs.stream().filter(k::equals).count() > 1);
            if (!even(legs.stream().mapToInt(k -> k).toArray()) || twice) {
                throw new Fault(5, from);
            }
            rules.add(new Rule(legs.stream().mapToInt(k -> k).toArray(), worth, letter));
            step();
        }

        boolean even(int[] row) {
            int marks = 0;
            int halves = 0;
            for (int k : row) {
                marks += kinds.get(k).mark;
                halves += kinds.get(k).sort == 2 ? 1 : 0;
            }
            return marks == 0 && halves % 2 == 0;
        }
    }

    // ---- drawings

    static final class Drawing {
        int[] rules;
        int[] least;
        int sign;
        int pairings;
        long namings;
        int inner;
        int loops;
        final List<Integer> sides = new ArrayList<>();
        final List<Integer> sideKinds = new ArrayList<>();
        final List<Integer> sideHeavies = new ArrayList<>();

        Fraction share() {
            return Fraction.of(pairings, namings);
        }
    }

    /** The legs for some rules, all pairings, and the drawings that they make. */
    static final class Group {
        final Book book;
        final int ends;
        final int[] rules;
        final int[] kinds;
        final int[] nodes;
        final int[] starts;
        final List<int[]> pairings = new ArrayList<>();
        final List<int[]> namings = new ArrayList<>();
        final Map<String, Integer> drawingOf = new HashMap<>();
        final List<Drawing> drawings = new ArrayList<>();

        Group(Book book, int[] endKinds, int[] rules) {
            this.book = book;
            this.ends = endKinds.length;
            this.rules = rules;
            int legs = ends;
            starts = new int[rules.length];
            for (int p = 0; p < rules.length; p++) {
                starts[p] = legs;
                legs += book.rules.get(rules[p]).legs.length;
            }
            kinds = new int[legs];
            nodes = new int[legs];
            for (int i = 0; i < ends; i++) {
                kinds[i] = endKinds[i];
                nodes[i] = i;
            }
            for (int p = 0; p < rules.length; p++) {
                int[] told = book.rules.get(rules[p]).legs;
                for (int k = 0; k < told.length; k++) {
                    kinds[starts[p] + k] = told[k];
                    nodes[starts[p] + k] = ends + p;
                }
            }
            if (legs <= 12 && legs % 2 == 0) {
                int[] row = new int[legs];
                Arrays.fill(row, -1);
                pair(row);
                if (!pairings.isEmpty()) {
                    name();
                    draw();
                }
            }
        }

        private void pair(int[] row) {
            int i = 0;
            while (i < row.length && row[i] >= 0) {
                i++;
            }
            if (i == row.length) {
                if (hangs(row, -1)) {
                    pairings.add(row.clone());
                }
                return;
            }
            for (int j = i + 1; j < row.length; j++) {
                if (row[j] < 0 && book.kinds.get(kinds[i]).foe == kinds[j]) {
                    row[i] = j;
                    row[j] = i;
                    pair(row);
                    row[i] = -1;
                    row[j] = -1;
                }
            }
        }

        /** The nodes that hang together with a node, without the join of a leg. */
        private boolean[] together(int[] row, int from, int without) {
            boolean[] seen = new boolean[ends + rules.length];
            seen[from] = true;
            for (int round = 0; round < seen.length; round++) {
                for (int i = 0; i < row.length; i++) {
                    if (i != without && row[i] != without && seen[nodes[i]]) {
                        seen[nodes[row[i]]] = true;
                    }
                }
            }
            return seen;
        }

        private boolean hangs(int[] row, int without) {
            for (boolean seen : together(row, 0, without)) {
                if (!seen) {
                    return false;
                }
            }
            return true;
        }

        boolean isPairing(int[] row) {
            for (int i = 0; i < row.length; i++) {
                if (row[i] < 0 || row[i] >= row.length || row[i] == i || row[row[i]] != i
                        || book.kinds.get(kinds[i]).foe != kinds[row[i]]) {
                    return false;
                }
            }
            return hangs(row, -1);
        }

        /** All namings: each tells for a leg which leg it becomes. */
        private void name() {
            int[] naming = new int[kinds.length];
            Arrays.fill(naming, -1);
            for (int i = 0; i < ends; i++) {
                naming[i] = i;
            }
            int[] points = new int[rules.length];
            Arrays.fill(points, -1);
            namePoints(points, 0, naming);
        }

        private void namePoints(int[] points, int p, int[] naming) {
            if (p == points.length) {
                nameLegs(points, ends, naming);
                return;
            }
            for (int q = 0; q < points.length; q++) {
                boolean used = false;
                for (int k = 0; k < p; k++) {
                    used |= points[k] == q;
                }
                if (!used && rules[q] == rules[p]) {
                    points[p] = q;
                    namePoints(points, p + 1, naming);
                }
            }
        }

        private void nameLegs(int[] points, int leg, int[] naming) {
            if (leg == naming.length) {
                namings.add(naming.clone());
                return;
            }
            int to = ends + points[nodes[leg] - ends];
            for (int j = ends; j < naming.length; j++) {
                boolean used = false;
                for (int k = ends; k < leg; k++) {
                    used |= naming[k] == j;
                }
                if (!used && nodes[j] == to && kinds[j] == kinds[leg]) {
                    naming[leg] = j;
                    nameLegs(points, leg + 1, naming);
                }
            }
        }

        private void draw() {
            for (int[] row : pairings) {
                if (!drawingOf.containsKey(Arrays.toString(row))) {
                    Drawing d = new Drawing();
                    // Pairings come by their rows, so the first of a drawing is its least.
                    d.least = row;
                    d.rules = rules;
                    for (int[] naming : namings) {
                        int[] renamed = new int[row.length];
                        for (int i = 0; i < row.length; i++) {
                            renamed[naming[i]] = naming[row[i]];
                        }
                        if (drawingOf.put(Arrays.toString(renamed), drawings.size()) == null) {
                            d.pairings++;
                        }
                    }
                    d.namings = namings.size();
                    look(d);
                    drawings.add(d);
                }
            }
        }

        int sign(int[] row) {
            int sign = 1;
            for (int i = 0; i < row.length; i++) {
                Kind kind = book.kinds.get(kinds[i]);
                if (kind.sort != 2 || row[i] < i) {
                    continue;
                }
                if (kind.foe < kinds[i]) {
                    sign = -sign;
                }
                for (int k = i + 1; k < row[i]; k++) {
                    if (book.kinds.get(kinds[k]).sort == 2 && row[k] > row[i]) {
                        sign = -sign;
                    }
                }
            }
            return sign;
        }

        private void look(Drawing d) {
            d.sign = sign(d.least);
            for (int i = ends; i < kinds.length; i++) {
                int j = d.least[i];
                if (j > i) {
                    d.inner++;
                    if (!hangs(d.least, i)) {
                        boolean[] seen = together(d.least, 0, i);
                        int side = 0;
                        for (int e = 0; e < ends; e++) {
                            side |= seen[e] ? 1 << e : 0;
                        }
                        d.sides.add(side);
                        int on = seen[nodes[i]] ? i : j;
                        d.sideKinds.add(kinds[on]);
                        d.sideHeavies.add(book.kinds.get(kinds[on]).heavy);
                    }
                }
            }
            d.loops = d.inner - rules.length + 1;
        }

        long worths() {
            long product = 1;
            for (int r : rules) {
                product *= book.rules.get(r).worth;
            }
            return product;
        }

        long heavies(int[] row) {
            long product = 1;
            for (int i = ends; i < row.length; i++) {
                product *= row[i] > i ? book.kinds.get(kinds[i]).heavy : 1;
            }
            return product;
        }

        String powers() {
            int[] powers = new int[3];
            for (int r : rules) {
                powers[book.rules.get(r).letter]++;
            }
            return Arrays.toString(powers);
        }
    }

    static final class Listing {
        final int order;
        final List<Group> groups = new ArrayList<>();
        final List<Drawing> drawings = new ArrayList<>();
        final List<Group> groupOf = new ArrayList<>();

        Listing(Book book, int[] ends, int order) {
            this.order = order;
            rules(book, ends, new int[order], 0);
            for (Group g : groups) {
                for (Drawing d : g.drawings) {
                    drawings.add(d);
                    groupOf.add(g);
                }
            }
        }

        private void rules(Book book, int[] ends, int[] rules, int p) {
            if (p == rules.length) {
                groups.add(new Group(book, ends, rules.clone()));
                return;
            }
            for (int r = p == 0 ? 0 : rules[p - 1]; r < book.rules.size(); r++) {
                rules[p] = r;
                rules(book, ends, rules, p + 1);
            }
        }

        Fraction sum(String powers) {
            Fraction sum = Fraction.ZERO;
            for (int i = 0; i < drawings.size(); i++) {
                Group g = groupOf.get(i);
                Drawing d = drawings.get(i);
                if (g.powers().equals(powers)) {
                    sum = sum.plus(d.share().times(Fraction.of(d.sign * g.worths(), g.heavies(d.least))));
                }
            }
            return sum;
        }

        Fraction byPairings(String powers) {
            Fraction sum = Fraction.ZERO;
            for (Group g : groups) {
                if (!g.powers().equals(powers)) {
                    continue;
                }
                Map<Long, Long> signsByHeavy = new TreeMap<>();
                for (int[] row : g.pairings) {
                    signsByHeavy.merge(g.heavies(row), (long) g.sign(row), Long::sum);
                }
                for (Map.Entry<Long, Long> e : signsByHeavy.entrySet()) {
                    sum = sum.plus(Fraction.of(e.getValue() * g.worths(), e.getKey())
                            .times(Fraction.of(1, g.namings.size())));
                }
            }
            return sum;
        }
    }

    // ---- the calls

    static final class Refused extends Exception {
        final int why;

        Refused(int why) {
            this.why = why;
        }
    }

    final StringBuilder tape = new StringBuilder();
    final int[] letters = {1, 1, 1};
    Book book;
    int fault;
    int faultPlace;
    int trouble;
    int pole;
    int[] ends = {};
    int[] numbers = {};
    Listing list;
    Fraction told;
    private final Map<String, Listing> listings = new HashMap<>();

    static Model with(String text) {
        Model m = new Model();
        m.tape.append(text);
        m.book(text.length());
        return m;
    }

    int feed(int a, int b, int c, int d, int e) {
        if (tape.length() + 20 > 400) {
            return -1;
        }
        for (int v : new int[] {a, b, c, d, e}) {
            for (int shift = 24; shift >= 0; shift -= 8) {
                tape.append((char) ((v >>> shift) & 255));
            }
        }
        return tape.length();
    }

    int book(int n) {
        if (n < 0 || n > tape.length()) {
            trouble = 2;
            return -1;
        }
        String text = tape.substring(0, n);
        tape.setLength(0);
        try {
            book = new Book(text);
        } catch (Fault f) {
            fault = f.number;
            faultPlace = f.place;
            trouble = 4;
            return -1;
        }
        fault = 0;
        trouble = 0;
        ends = new int[0];
        numbers = new int[0];
        list = null;
        listings.clear();
        Arrays.fill(letters, 1);
        return book.kinds.size();
    }

    int fault() {
        return fault;
    }

    int where() {
        return trouble == 4 ? faultPlace : -1;
    }

    int kind(int i, int what) {
        if (book == null || i < 0 || i >= book.kinds.size() || what < 0 || what > 3) {
            return Integer.MIN_VALUE;
        }
        Kind k = book.kinds.get(i);
        return new int[] {k.foe, k.heavy, k.mark, k.sort}[what];
    }

    int rule(int i, int what) {
        if (book == null || i < 0 || i >= book.rules.size() || what < 0 || what > 6) {
            return Integer.MIN_VALUE;
        }
        Rule r = book.rules.get(i);
        if (what > 2) {
            return what - 3 < r.legs.length ? r.legs[what - 3] : -2;
        }
        return new int[] {r.legs.length, r.worth, r.letter}[what];
    }

    private int refuse(int why) {
        trouble = why;
        return -1;
    }

    int meeting(int a, int b, int c, int d, int e, int f) {
        if (book == null) {
            return refuse(1);
        }
        int[] all = {a, b, c, d, e, f};
        int size = 0;
        while (size < 6 && all[size] != -1) {
            size++;
        }
        int[] told = Arrays.copyOf(all, size);
        for (int k : told) {
            if (k < 0 || k >= book.kinds.size()) {
                return refuse(1);
            }
        }
        if (size < 2) {
            return refuse(2);
        }
        ends = told;
        numbers = new int[size];
        list = null;
        trouble = 0;
        return size;
    }

    private Listing listing(int[] of, int order) throws Refused {
        Listing found = listings.computeIfAbsent(Arrays.toString(of) + order, key -> new Listing(book, of, order));
        if (found.drawings.size() > 200) {
            throw new Refused(3);
        }
        return found;
    }

    int drawings(int order) {
        try {
            if (ends.length == 0) {
                throw new Refused(1);
            }
            if (order < 1 || order > 3) {
                throw new Refused(2);
            }
            if (!book.even(ends)) {
                throw new Refused(7);
            }
            list = listing(ends, order);
        } catch (Refused r) {
            return refuse(r.why);
        }
        trouble = 0;
        return list.drawings.size();
    }

    private boolean listed(int i) {
        return list != null && i >= 0 && i < list.drawings.size();
    }

    int drawing(int i, int what) {
        if (!listed(i) || what < 0 || what > 6) {
            return Integer.MIN_VALUE;
        }
        Drawing d = list.drawings.get(i);
        return new int[] {d.share().top.intValueExact(), d.share().bottom.intValueExact(), d.sign, d.loops,
            d.sides.size(), d.pairings, d.inner}[what];
    }

    int point(int i, int p) {
        return listed(i) && p >= 0 && p < list.order ? list.drawings.get(i).rules[p] : -1;
    }

    int joined(int i, int leg) {
        return listed(i) && leg >= 0 && leg < list.drawings.get(i).least.length
                ? list.drawings.get(i).least[leg] : -1;
    }

    int side(int i, int k) {
        if (!listed(i) || k < 0 || k >= list.drawings.get(i).sides.size()) {
            throw new NoSuchElementException();
        }
        return list.drawings.get(i).sides.get(k);
    }

    int pairings() {
        return list == null ? -1 : list.groups.stream().mapToInt(g -> g.pairings.size()).sum();
    }

    int same(int i, int a, int b, int c, int d, int e, int f) {
        if (!listed(i)) {
            return -1;
        }
        Group g = list.groupOf.get(i);
        int[] all = {a, b, c, d, e, f};
        int[] row = new int[g.kinds.length];
        for (int leg = 0; leg < row.length; leg++) {
            row[leg] = leg % 2 == 0 ? Math.floorDiv(all[leg / 2], 100) : Math.floorMod(all[leg / 2], 100);
        }
        if (!g.isPairing(row)) {
            return -2;
        }
        return list.drawings.indexOf(g.drawings.get(g.drawingOf.get(Arrays.toString(row))));
    }

    private long told(Fraction f, boolean denominator) {
        if (!f.within(SUM_MOST)) {
            return Long.MIN_VALUE;
        }
        return (denominator ? f.bottom : f.top).longValueExact();
    }

    private boolean powered(int a, int b, int c) {
        return list != null && a >= 0 && b >= 0 && c >= 0 && (long) a + b + c == list.order;
    }

    long sum(int a, int b, int c, boolean denominator) {
        return powered(a, b, c) ? told(list.sum(Arrays.toString(new int[] {a, b, c})), denominator)
                : Long.MIN_VALUE;
    }

    long byPairings(int a, int b, int c, boolean denominator) {
        return powered(a, b, c) ? told(list.byPairings(Arrays.toString(new int[] {a, b, c})), denominator)
                : Long.MIN_VALUE;
    }

    boolean number(int end, int v) {
        if (end < 0 || end >= ends.length) {
            return refuse(1) == 0;
        }
        if (Math.abs((long) v) > 999) {
            return refuse(2) == 0;
        }
        numbers[end] = v;
        trouble = 0;
        return true;
    }

    boolean letter(int l, int v) {
        if (book == null || l < 0 || l > 2) {
            return refuse(1) == 0;
        }
        if (Math.abs((long) v) > 99) {
            return refuse(2) == 0;
        }
        letters[l] = v;
        trouble = 0;
        return true;
    }

    private static int flow(int[] of, int side) {
        int flow = 0;
        for (int i = 0; i < of.length; i++) {
            flow += (side >> i & 1) != 0 ? of[i] : 0;
        }
        return flow;
    }

    /** A worth, or the side of its pole. */
    private record Reckoned(Fraction worth, int pole) { }

    private Reckoned worthOf(int[] of, int[] with, int order, int side, int foe) throws Refused {
        Listing here = listing(of, order);
        Fraction sum = Fraction.ZERO;
        for (int i = 0; i < here.drawings.size(); i++) {
            Drawing d = here.drawings.get(i);
            if (d.loops != 0) {
                continue;
            }
            int without = -1;
            for (int k = d.sides.size() - 1; k >= 0; k--) {
                if (d.sides.get(k) == side && d.sideKinds.get(k) == foe) {
                    without = k;
                }
            }
            if (side != 0 && without < 0) {
                continue;
            }
            Fraction term = d.share().times(Fraction.of(d.sign, 1));
            for (int r : d.rules) {
                Rule rule = book.rules.get(r);
                term = term.times(Fraction.of((long) rule.worth * letters[rule.letter], 1));
            }
            for (int k = 0; k < d.sides.size(); k++) {
                if (k != without) {
                    int flow = flow(with, d.sides.get(k));
                    int heavy = d.sideHeavies.get(k);
                    if (flow * flow == heavy * heavy) {
                        return new Reckoned(null, d.sides.get(k));
                    }
                    term = term.times(Fraction.of(1, flow * flow - heavy * heavy));
                }
            }
            sum = sum.plus(term);
        }
        return new Reckoned(sum, -1);
    }

    private boolean tell(Reckoned r) throws Refused {
        if (r.worth == null) {
            pole = r.pole;
            throw new Refused(5);
        }
        if (!r.worth.within(WORTH_MOST)) {
            throw new Refused(6);
        }
        told = r.worth;
        trouble = 0;
        return true;
    }

    private void check(boolean such, int order, int least) throws Refused {
        if (ends.length == 0 || !such) {
            throw new Refused(1);
        }
        if (order < least || order > 3) {
            throw new Refused(2);
        }
    }

    private void checkEnds() throws Refused {
        if (!book.even(ends)) {
            throw new Refused(7);
        }
        if (flow(numbers, 63) != 0) {
            throw new Refused(8);
        }
    }

    private boolean isSide(int side, int kind) {
        int in = Integer.bitCount(side);
        return side > 0 && side < 1 << ends.length && (side & 1) == 1 && in >= 2 && ends.length - in >= 2
                && kind >= 0 && kind < book.kinds.size();
    }

    boolean at(int order) {
        try {
            check(true, order, 1);
            checkEnds();
            return tell(worthOf(ends, numbers, order, 0, -1));
        } catch (Refused r) {
            trouble = r.why;
            return false;
        }
    }

    boolean whole(int side, int kind, int order) {
        try {
            check(isSide(side, kind), order, 2);
            checkEnds();
            return tell(worthOf(ends, numbers, order, side, book.kinds.get(kind).foe));
        } catch (Refused r) {
            trouble = r.why;
            return false;
        }
    }

    private static int[] some(int[] of, int side, boolean inside, int last) {
        List<Integer> out = new ArrayList<>();
        for (int i = 0; i < of.length; i++) {
            if ((side >> i & 1) != 0 == inside) {
                out.add(of[i]);
            }
        }
        out.add(last);
        return out.stream().mapToInt(v -> v).toArray();
    }

    boolean parted(int side, int kind, int order) {
        try {
            check(isSide(side, kind), order, 2);
            int[] near = some(ends, side, true, kind);
            int[] far = some(ends, side, false, book.kinds.get(kind).foe);
            if (!book.even(near) || !book.even(far)) {
                throw new Refused(7);
            }
            checkEnds();
            int[] nearNumbers = some(numbers, side, true, -flow(numbers, side));
            int[] farNumbers = some(numbers, side, false, flow(numbers, side));
            Fraction sum = Fraction.ZERO;
            Reckoned pole = null;
            for (int v = 1; v < order; v++) {
                Reckoned one = worthOf(near, nearNumbers, v, 0, -1);
                Reckoned two = worthOf(far, farNumbers, order - v, 0, -1);
                if (one.worth == null || two.worth == null) {
                    pole = pole != null ? pole : one.worth == null ? one : two;
                } else {
                    sum = sum.plus(one.worth.times(two.worth));
                }
            }
            return tell(pole != null ? pole : new Reckoned(sum, -1));
        } catch (Refused r) {
            trouble = r.why;
            return false;
        }
    }

    long worth(boolean denominator) {
        return told == null ? Long.MIN_VALUE : (denominator ? told.bottom : told.top).longValueExact();
    }

    int rest(int k) {
        return told == null || k < 0 || k > 3 ? -1 : told.rest(PRIMES[k]);
    }

    int pole() {
        return trouble == 5 ? pole : -1;
    }

    int count(int what) {
        switch (what) {
            case 0: return book == null ? 0 : book.kinds.size();
            case 1: return book == null ? 0 : book.rules.size();
            case 2: return ends.length;
            case 3: return list == null ? 0 : list.drawings.size();
            case 4: return list == null ? 0 : list.order;
            case 5: return list == null ? 0 : (int) list.drawings.stream().filter(d -> d.loops == 0).count();
            case 6: return list == null ? 0 : (int) list.drawings.stream().filter(d -> d.sides.isEmpty()).count();
            case 7: return tape.length();
            default: return -1;
        }
    }

    int trouble() {
        return trouble;
    }
}
