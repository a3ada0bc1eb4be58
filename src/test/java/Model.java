import java.util.ArrayList;
import java.util.Arrays;
import java.util.Comparator;
import java.util.List;
import java.util.regex.Matcher;
import java.util.regex.Pattern;

/**
 * The document's words in their plainest form, with no thought of speed: all orders are walked from
 * end to end, all begins are tried, a text is a tree. RandomRunsTest holds the class against it.
 */
final class Model {
    private static final int NONE = -1, BAD = -2, STATE = -3, FULL = -4;
    private static final long NO = -4611686018427387904L;
    private static final int[] PARENT = {-1, 0, 0, 1, 2, 1};
    private static final int[] LEAST = {4, 0, 0, 1, 0, 0, 1, 1, 1, 1};
    private static final int[] MOST = {60, 99, 999, 9, 9, 9, 9, 9, 9, 9};

    record House(int kind, int number, int place, int side, int sort) {
    }

    record State(List<House> houses, List<Integer> list, int[] terms, int rule) {
        State copy() {
            return new State(new ArrayList<>(houses), new ArrayList<>(list), terms.clone(), rule);
        }
    }

    record Round(int[] at, int ends, int backs) {
    }

    interface Expression {
        int of(House house, int index, int late, int rain);
    }

    record Text(Expression by, Expression rings, Expression tips) {
    }

    private State now = new State(new ArrayList<>(), new ArrayList<>(),
        new int[] {12, 0, 0, 4, 1, 0, 1, 2, 3, 4}, 0);
    private State image = null;
    private final List<Text> texts = new ArrayList<>();
    private final StringBuilder tape = new StringBuilder();
    private final Object[] sheets = new Object[4];

    Model() {
        texts.add(new Parse("by 30 + house * 5 ; rings 5 < late ; tips 20 - late ;").text());
    }

    private int size() {
        return now.houses.size();
    }

    public int house(int kind, int what, int where) {
        boolean good = kind >= 0 && kind <= 5 && what >= 0 && what <= 99 && what % 10 <= 3
            && where >= 0 && where <= 999 && where % 10 <= 1;
        if (!good) return BAD;
        if (size() == 7) return FULL;
        now.houses.add(new House(kind, what / 10, where / 10, where % 10, what % 10));
        now.list.add(size() - 1);
        return size() - 1;
    }

    public int set(int house, int what, int v) {
        if (house < 0 || house >= size() || what < 0 || what > 3 || v < 0) return BAD;
        if (v > new int[] {9, 99, 1, 3}[what]) return BAD;
        House h = now.houses.get(house);
        now.houses.set(house, new House(h.kind, what == 0 ? v : h.number, what == 1 ? v : h.place,
            what == 2 ? v : h.side, what == 3 ? v : h.sort));
        return new int[] {h.number, h.place, h.side, h.sort}[what];
    }

    public int bag(int what, int v) {
        if (what < 0 || what > 9 || v < LEAST[what] || v > MOST[what]) return BAD;
        int was = now.terms[what];
        now = now.copy();
        now.terms[what] = v;
        return was;
    }

    public int told(int house, int what) {
        if (house < 0 || house >= size() || what < 0 || what > 7) return BAD;
        House h = now.houses.get(house);
        return new int[] {h.number, h.place, h.side, h.sort, h.kind, now.list.indexOf(house),
            takes(h.kind, h), by(house)}[what];
    }

    public int swap(int i, int j) {
        if (i < 0 || i >= size() || j < 0 || j >= size()) return BAD;
        java.util.Collections.swap(now.list, i, j);
        return now.list.get(i);
    }

    public int feed(int letter) {
        if (letter < 0 || letter > 255) return BAD;
        if (tape.length() == 160) return FULL;
        tape.append((char) letter);
        return tape.length();
    }

    public int text() {
        if (texts.size() == 6) return FULL;
        String all = tape.toString();
        tape.setLength(0);
        try {
            texts.add(new Parse(all).text());
            return texts.size() - 1;
        } catch (Fault fault) {
            return -100 - fault.place;
        }
    }

    public int force(int text) {
        if (text < 0 || text >= texts.size()) return BAD;
        int was = now.rule;
        now = new State(now.houses, now.list, now.terms, text);
        return was;
    }

    public int at(int house, int what) {
        if (house < 0 || house >= size() || what < 0 || what > 2) return BAD;
        Round r = walk(now.list);
        return new int[] {r.at[house], late(r, house), tips(r, house)}[what];
    }

    public int round(int what) {
        if (what < 0 || what > 4) return BAD;
        Round r = walk(now.list);
        int late = 0;
        for (int h = 0; h < size(); h++) {
            late += late(r, h) > 0 ? 1 : 0;
        }
        return new int[] {r.ends, r.backs, late, ringUp(r, 0), purse(r, 0)}[what];
    }

    public int shifted(int k, int what) {
        if (k < 0 || k > size() || what < 0 || what > 2) return BAD;
        Round r = walk(now.list);
        return new int[] {wrong(k), ringUp(r, wrong(k)), purse(r, wrong(k))}[what];
    }

    public int where(int sheet, int what) {
        if (sheet < 0 || sheet > 3 || what < 0 || what > 1) return BAD;
        if (sheets[sheet] == null) return -11;
        if (java.lang.reflect.Array.getLength(sheets[sheet]) != size()) return BAD;
        Round r = walk(now.list);
        List<Integer> places = new ArrayList<>();
        for (int k = 0; k <= size(); k++) {
            boolean so = true;
            for (int h = 0; h < size(); h++) {
                so &= item(sheet, h) == (ringUp(r, wrong(k)) >> h & 1);
            }
            if (so) places.add(k);
        }
        return what == 0 ? places.size() : places.isEmpty() ? NONE : places.get(0);
    }

    public int best(int sort, int place) {
        if (sort < 0 || sort > 1 || place < -1 || place >= size()) return BAD;
        List<Integer> order = bestOrder(sort);
        if (place >= 0) return order.get(place);
        return sort == 0 ? walk(order).ends : purse(walk(order), 0);
    }

    public int arrange(int sort) {
        if (sort < 0 || sort > 1) return BAD;
        List<Integer> order = bestOrder(sort);
        now = new State(now.houses, order, now.terms, now.rule);
        return walk(order).ends;
    }

    public int ways(int what) {
        if (what < 0 || what > 1) return BAD;
        List<Integer> order = new ArrayList<>();
        for (int h = 0; h < size(); h++) {
            order.add(h);
        }
        Comparator<Integer> up = Comparator.comparingInt(h -> now.houses.get(h).place);
        if (what == 0) {
            up = Comparator.<Integer>comparingInt(h -> now.houses.get(h).side).thenComparing((a, b) ->
                now.houses.get(a).side == 0
                    ? now.houses.get(a).place - now.houses.get(b).place
                    : now.houses.get(b).place - now.houses.get(a).place);
        }
        order.sort(up.thenComparing(Comparator.naturalOrder()));
        return walk(order).ends;
    }

    public int begin() {
        State was = now.copy();
        for (int begin = 999; begin >= 0; begin--) {
            now.terms[2] = begin;
            if (round(2) == 0) {
                now = was;
                return begin;
            }
        }
        now = was;
        return NONE;
    }

    public int heap(int what) {
        if (what < 0 || what > 1) return BAD;
        State was = now.copy();
        int[] ends = new int[100];
        for (int heap = 0; heap < 100; heap++) {
            now.terms[1] = heap;
            ends[heap] = round(0);
        }
        now = was;
        int least = Arrays.stream(ends).min().getAsInt();
        return what == 1 ? least : indexOf(ends, least);
    }

    public int split(int what) {
        if (what < 0 || what > 1) return BAD;
        int[] ends = new int[size() + 1];
        for (int k = 0; k <= size(); k++) {
            ends[k] = Math.max(walk(now.list.subList(0, k)).ends, walk(now.list.subList(k, size())).ends);
        }
        int least = Arrays.stream(ends).min().getAsInt();
        return what == 1 ? least : indexOf(ends, least);
    }

    private static int indexOf(int[] row, int v) {
        int i = 0;
        while (row[i] != v) i++;
        return i;
    }

    public int drop(int house) {
        return house < 0 || house >= size() ? BAD : away(1 << house, 0);
    }

    public int away(int set, int what) {
        if (set < 0 || set >> size() != 0 || what < 0 || what > 1) return BAD;
        List<Integer> rest = new ArrayList<>(now.list);
        rest.removeIf(h -> (set >> h & 1) == 1);
        int thick = 0;
        for (int h = 0; h < size(); h++) {
            thick += rest.contains(h) ? 0 : thick(now.houses.get(h));
        }
        return what == 0 ? walk(rest).ends : thick;
    }

    public int judge(int sheet) {
        if (sheet < 0 || sheet > 3) return BAD;
        if (sheets[sheet] == null) return -11;
        if (java.lang.reflect.Array.getLength(sheets[sheet]) != size()) return BAD;
        Round r = walk(now.list);
        for (int i = 0; i < size(); i++) {
            if (item(sheet, i) != r.at[now.list.get(i)]) return i;
        }
        return NONE;
    }

    public int thrownBy(int seed, int odds) {
        if (odds < 0 || odds > 10) return BAD;
        int z = seed;
        int right = 0;
        for (int i = 0; i < size(); i++) {
            z = z * 1103515245 + 12345;
            right += (z >>> 10) % 10 < odds ? 1 : 0;
        }
        return right;
    }

    public long chance(int seed, int n, int odds, int part) {
        if (n < 1 || n > 20 || odds < 0 || odds > 10 || part < 0 || part > 1) return NO;
        int all = 0;
        for (int i = 0; i < n; i++) {
            all += thrownBy(seed + i, odds) == size() ? 1 : 0;
        }
        int gcd = java.math.BigInteger.valueOf(all).gcd(java.math.BigInteger.valueOf(n)).intValue();
        return (part == 0 ? all : n) / gcd;
    }

    public int image() {
        image = now.copy();
        return size();
    }

    public int back() {
        if (image == null) return STATE;
        now = image.copy();
        return size();
    }

    public int count(int what) {
        if (what < 0 || what > 13) return BAD;
        return what >= 4 ? now.terms[what - 4] : new int[] {size(), texts.size(), tape.length(), now.rule}[what];
    }

    public int sheet(int sheet, int sort, int n) {
        if (sheet < 0 || sheet > 3 || sort < -1 || sort > 2) return BAD;
        if (sort == -1) {
            sheets[sheet] = null;
            return 1;
        }
        if (n > 40) return BAD;
        if (n < 0) return -14;
        sheets[sheet] = sort == 0 ? new byte[n] : sort == 1 ? new short[n] : new int[n];
        return 1;
    }

    public int cell(int sheet, int i, int v) {
        if (sheet < 0 || sheet > 3) return BAD;
        Object row = sheets[sheet];
        if (row == null) return -11;
        try {
            if (row instanceof byte[] bytes) bytes[i] = (byte) v;
            if (row instanceof short[] shorts) shorts[i] = (short) v;
            if (row instanceof int[] ints) ints[i] = v;
            return 1;
        } catch (ArrayIndexOutOfBoundsException outside) {
            return -12;
        }
    }

    public int copy(int sheet, int i, int other, int j, int n) {
        if (sheet < 0 || sheet > 3 || other < 0 || other > 3) return BAD;
        try {
            System.arraycopy(sheets[sheet], i, sheets[other], j, n);
            return n;
        } catch (NullPointerException nothing) {
            return -11;
        } catch (ArrayStoreException unlike) {
            return -13;
        } catch (IndexOutOfBoundsException outside) {
            return -12;
        }
    }

    public int houses(int sheet, int sort, int from, int n) {
        if (sheet < 0 || sheet > 3 || sort < 0 || sort > 2 || n < 0 || n > 7) return BAD;
        Object row = sheets[sheet];
        Class<?> wanted = sort == 0 ? byte[].class : sort == 1 ? short[].class : int[].class;
        if (row != null && !wanted.isInstance(row)) return -13;
        if (row == null) return -11;
        int came = 0;
        try {
            for (int k = 0; k < n; k++) {
                int i = from + 3 * k;
                came += house(item(sheet, i), item(sheet, i + 1), item(sheet, i + 2)) >= 0 ? 1 : 0;
            }
            return came;
        } catch (ArrayIndexOutOfBoundsException outside) {
            return -12;
        }
    }

    public int taken(int house, int k) {
        if (k < 0 || k > 5) return BAD;
        if (house < 0 || house >= size()) return -11;
        for (int kind = now.houses.get(house).kind; kind >= 0; kind = PARENT[kind]) {
            if (kind == k) return now.houses.get(house).number;
        }
        return -13;
    }

    private int item(int sheet, int i) {
        return java.lang.reflect.Array.getInt(sheets[sheet], i);
    }

    private int thick(House h) {
        return now.terms[6 + h.sort];
    }

    private int takes(int kind, House h) {
        return switch (kind) {
            case 0 -> 1;
            case 1 -> takes(0, h) + h.number;
            case 2 -> takes(0, h) + (h.number % 2 != 0 ? 3 : 0);
            case 3 -> takes(1, h) + thick(h);
            case 4 -> 2 * takes(2, h);
            default -> takes(1, h) + (now.terms[5] > 0 ? 1 : 0);
        };
    }

    private int gives(int kind, House h, int m, int base) {
        return switch (kind) {
            case 0, 1 -> base - m;
            case 2 -> gives(0, h, m, base) / 2;
            case 3 -> gives(1, h, m, base) + h.number;
            case 4 -> gives(2, h, m, base) + (m == 0 ? 2 : 0);
            default -> gives(1, h, m, base) - now.terms[5];
        };
    }

    /** A round as the words go: the bag is filled with the papers themselves. */
    private Round walk(List<Integer> order) {
        int[] at = new int[size()];
        int minute = now.terms[2];
        int place = now.terms[1];
        int side = 0;
        int backs = 0;
        List<Integer> bag = new ArrayList<>(filled(order, 0));
        for (int i = 0; i < order.size(); i++) {
            if (bag.isEmpty()) {
                minute += minutes(place, now.terms[1]);
                place = now.terms[1];
                backs++;
                bag.addAll(filled(order, i));
            }
            House h = now.houses.get(bag.remove(0));
            minute += minutes(place, h.place) + (side != h.side ? now.terms[4] : 0);
            at[order.get(i)] = minute;
            minute += takes(h.kind, h);
            place = h.place;
            side = h.side;
        }
        return new Round(at, minute, backs);
    }

    private List<Integer> filled(List<Integer> order, int from) {
        int to = from;
        int together = 0;
        while (to < order.size()) {
            together += thick(now.houses.get(order.get(to)));
            if (together > now.terms[0] && to > from) break;
            to++;
        }
        return order.subList(from, to);
    }

    private int minutes(int from, int to) {
        return (int) Math.ceil(Math.abs(to - from) / (double) now.terms[3]);
    }

    private int by(int house) {
        int by = texts.get(now.rule).by.of(now.houses.get(house), house, 0, now.terms[5]);
        return by < 0 ? 0 : by > 999 ? 999 : by;
    }

    private int late(Round r, int house) {
        return Math.max(0, r.at[house] - by(house));
    }

    private int tips(Round r, int house) {
        House h = now.houses.get(house);
        int m = late(r, house);
        int base = texts.get(now.rule).tips.of(h, house, m, now.terms[5]);
        base = base < 0 ? 0 : base > 99 ? 99 : base;
        return Math.max(0, gives(h.kind, h, m, base));
    }

    private int ringUp(Round r, int wrong) {
        int bits = wrong;
        for (int h = 0; h < size(); h++) {
            if (texts.get(now.rule).rings.of(now.houses.get(h), h, late(r, h), now.terms[5]) != 0) bits |= 1 << h;
        }
        return bits;
    }

    private int purse(Round r, int wrong) {
        int purse = 0;
        for (int h = 0; h < size(); h++) {
            purse += (ringUp(r, wrong) >> h & 1) == 0 ? tips(r, h) : 0;
        }
        return purse;
    }

    private int wrong(int k) {
        int bits = 0;
        for (int i = k; i < size(); i++) {
            int got = now.houses.get(now.list.get(i == 0 ? 0 : i - 1)).sort;
            if (got != now.houses.get(now.list.get(i)).sort) bits |= 1 << now.list.get(i);
        }
        return bits;
    }

    private List<Integer> bestOrder(int sort) {
        List<Integer> best = new ArrayList<>();
        int[] score = {Integer.MIN_VALUE};
        tryOrders(new ArrayList<>(), sort, best, score);
        return best;
    }

    private void tryOrders(List<Integer> begun, int sort, List<Integer> best, int[] score) {
        if (begun.size() == size()) {
            Round r = walk(begun);
            int s = sort == 0 ? -r.ends : purse(r, 0);
            if (s > score[0]) {
                score[0] = s;
                best.clear();
                best.addAll(begun);
            }
            return;
        }
        for (int h = 0; h < size(); h++) {
            if (!begun.contains(h)) {
                begun.add(h);
                tryOrders(begun, sort, best, score);
                begun.remove(begun.size() - 1);
            }
        }
    }

    static final class Fault extends RuntimeException {
        private static final long serialVersionUID = 1L;
        final int place;

        Fault(int place) {
            this.place = place;
        }
    }

    /** A text is cut into tokens and places first, and then read as the grammar goes. */
    static final class Parse {
        private static final Pattern TOKEN = Pattern.compile("[a-z]+|[0-9]+|[();+\\-*<=]");
        private static final List<String> NAMES = List.of("place", "side", "sort", "late", "rain", "house");

        private final List<String> tokens = new ArrayList<>();
        private final List<Integer> places = new ArrayList<>();
        private int next = 0;
        private int open = 0;

        Parse(String all) {
            Matcher m = TOKEN.matcher(all);
            int i = 0;
            while (i < all.length()) {
                if (all.charAt(i) == ' ' || all.charAt(i) == '\n') {
                    i++;
                } else if (m.region(i, all.length()).lookingAt()) {
                    tokens.add(m.group());
                    places.add(i);
                    i = m.end();
                } else {
                    tokens.add("?");
                    places.add(i);
                    i++;
                }
            }
            tokens.add("");
            places.add(all.length());
        }

        Text text() {
            need("by");
            Expression by = e();
            need(";");
            need("rings");
            Expression rings = e();
            need(";");
            need("tips");
            Expression tips = e();
            need(";");
            need("");
            return new Text(by, rings, tips);
        }

        private boolean is(String token) {
            return tokens.get(next).equals(token);
        }

        private void need(String token) {
            if (!is(token)) throw new Fault(places.get(next));
            next = Math.min(next + 1, tokens.size() - 1);
        }

        private void enter(String token) {
            if (open == 5) throw new Fault(places.get(next));
            open++;
            need(token);
        }

        private Expression e() {
            Expression a = and();
            while (is("or")) {
                need("or");
                Expression l = a;
                Expression r = and();
                a = (h, i, m, w) -> l.of(h, i, m, w) != 0 | r.of(h, i, m, w) != 0 ? 1 : 0;
            }
            return a;
        }

        private Expression and() {
            Expression a = not();
            while (is("and")) {
                need("and");
                Expression l = a;
                Expression r = not();
                a = (h, i, m, w) -> l.of(h, i, m, w) != 0 & r.of(h, i, m, w) != 0 ? 1 : 0;
            }
            return a;
        }

        private Expression not() {
            if (is("not")) {
                enter("not");
                Expression n = not();
                open--;
                return (h, i, m, w) -> n.of(h, i, m, w) == 0 ? 1 : 0;
            }
            Expression l = sum();
            if (is("<")) {
                need("<");
                Expression r = sum();
                return (h, i, m, w) -> l.of(h, i, m, w) < r.of(h, i, m, w) ? 1 : 0;
            }
            if (is("=")) {
                need("=");
                Expression r = sum();
                return (h, i, m, w) -> l.of(h, i, m, w) == r.of(h, i, m, w) ? 1 : 0;
            }
            return l;
        }

        private Expression sum() {
            Expression a = term();
            while (is("+") || is("-")) {
                int sign = is("+") ? 1 : -1;
                need(tokens.get(next));
                Expression l = a;
                Expression r = term();
                a = (h, i, m, w) -> l.of(h, i, m, w) + sign * r.of(h, i, m, w);
            }
            return a;
        }

        private Expression term() {
            Expression a = one();
            while (is("*")) {
                need("*");
                Expression l = a;
                Expression r = one();
                a = (h, i, m, w) -> l.of(h, i, m, w) * r.of(h, i, m, w);
            }
            return a;
        }

        private Expression one() {
            String token = tokens.get(next);
            if (token.equals("-")) {
                enter("-");
                Expression n = one();
                open--;
                return (h, i, m, w) -> -n.of(h, i, m, w);
            }
            if (token.equals("(")) {
                enter("(");
                Expression inner = e();
                need(")");
                open--;
                return inner;
            }
            int name = NAMES.indexOf(token);
            if (name < 0 && !token.matches("[0-9]{1,4}")) throw new Fault(places.get(next));
            need(token);
            if (name < 0) {
                int number = Integer.parseInt(token);
                return (h, i, m, w) -> number;
            }
            return (h, i, m, w) -> new int[] {h.place, h.side, h.sort, m, w, i}[name];
        }
    }
}
