import java.math.BigInteger;
import java.util.ArrayList;
import java.util.Arrays;
import java.util.List;

/**
 * The document once more, written in another way than the class: with lists that never change, big
 * numbers, exceptions and a reader that goes down the grammar. ModelTest lets both answer the same calls.
 */
final class Model {
    static final int BAD = -1000001, NOT = -1000002, FULL = -1000003, NONE = -1000004, WIDE = -1000005,
        ROOT = -1000006, NULL = -1000011, CAST = -1000012, INDEX = -1000013, SIZE = -1000014, FAULT = -1000020;

    /** What is refused, with its number. */
    private static final class Refused extends RuntimeException {
        private static final long serialVersionUID = 1L;
        final int number;

        Refused(int number) {
            super(null, null, false, false);
            this.number = number;
        }
    }

    private record State(List<List<BigInteger>> series, int length, int draw) { }

    private interface Call {
        int answer();
    }

    private State state = new State(Arrays.asList(null, null, null, null), 24, 1);
    private List<State> past = List.of();
    private State keptState = null;
    private List<State> keptPast = null;
    private String tape = "";
    private int whyBrackets = NONE;
    private int whyLetter = NONE;
    private final long[][] sheets = new long[4][];
    private final int[] lanes = new int[4];

    private static int ask(Call call) {
        try {
            return call.answer();
        } catch (Refused refused) {
            return refused.number;
        }
    }

    private static void need(boolean is, int refusal) {
        if (!is) {
            throw new Refused(refusal);
        }
    }

    private static void within(long low, long v, long high) {
        need(low <= v && v <= high, BAD);
    }

    private static void fours(int... all) {
        for (int v : all) {
            within(0, v, 3);
        }
    }

    private List<BigInteger> there(int series, int refusal) {
        need(state.series.get(series) != null, refusal);
        return state.series.get(series);
    }

    private void act(State next) {
        List<State> longer = new ArrayList<>(past);
        longer.add(state);
        past = longer.subList(Math.max(0, longer.size() - 6), longer.size());
        state = next;
    }

    private State with(int series, List<BigInteger> terms) {
        List<List<BigInteger>> all = new ArrayList<>(state.series);
        all.set(series, terms);
        return new State(all, state.length, state.draw);
    }

    private int settle(int series, List<BigInteger> terms) {
        act(with(series, terms));
        return terms.size();
    }

    // ---- the algebra

    private static BigInteger narrow(BigInteger v) {
        need(v.abs().compareTo(BigInteger.valueOf(100000000)) <= 0, WIDE);
        return v;
    }

    private static List<BigInteger> zeros(int n) {
        List<BigInteger> all = new ArrayList<>();
        for (int k = 0; k < n; k++) {
            all.add(BigInteger.ZERO);
        }
        return all;
    }

    private static List<BigInteger> one(int n) {
        return mark(0, 1, n);
    }

    private static List<BigInteger> mark(int place, int v, int n) {
        List<BigInteger> all = zeros(n);
        if (place < n) {
            all.set(place, BigInteger.valueOf(v));
        }
        return all;
    }

    private static List<BigInteger> kind(int what, int d, int n) {
        if (what == 0) {
            return one(n);
        }
        if (what == 4) {
            return mark(d, 1, n);
        }
        List<BigInteger> all = one(n);
        if (what == 3) {
            for (int k = d; k < n; k += d) {
                all = joined(2, all, joined(1, one(n), mark(k, 1, n)));
            }
            return all;
        }
        for (int k = 1; k < n; k++) {
            int place = what == 1 ? d * k * k : d * k * (k + 1) / 2;
            if (place < n) {
                all.set(place, BigInteger.valueOf(what == 1 ? 2 : 1));
            }
        }
        return all;
    }

    private static List<BigInteger> joined(int act, List<BigInteger> a, List<BigInteger> b) {
        int n = Math.min(a.size(), b.size());
        List<BigInteger> all = zeros(n);
        if (act == 3) {
            need(b.get(0).abs().equals(BigInteger.ONE), ROOT);
            List<BigInteger> left = new ArrayList<>(a.subList(0, n));
            for (int k = 0; k < n; k++) {
                BigInteger c = narrow(left.get(k).divide(b.get(0)));
                all.set(k, c);
                for (int j = k; j < n; j++) {
                    left.set(j, left.get(j).subtract(c.multiply(b.get(j - k))));
                }
            }
            return all;
        }
        for (int k = 0; k < n; k++) {
            for (int j = 0; act == 2 && k + j < n; j++) {
                all.set(k + j, all.get(k + j).add(a.get(k).multiply(b.get(j))));
            }
            if (act != 2) {
                all.set(k, act == 0 ? a.get(k).add(b.get(k)) : a.get(k).subtract(b.get(k)));
            }
        }
        all.forEach(Model::narrow);
        return all;
    }

    private static List<BigInteger> power(List<BigInteger> a, int v) {
        List<BigInteger> all = one(a.size());
        for (int k = 0; k < v; k++) {
            all = joined(2, all, a);
        }
        return all;
    }

    // ---- 1 series

    int make(int series, int what, int d) {
        return ask(() -> {
            fours(series);
            within(0, what, 4);
            within(what == 0 || what == 4 ? 0 : 1, d, what == 0 ? 0 : what == 4 ? 39 : 9);
            return settle(series, kind(what, d, state.length));
        });
    }

    int join(int series, int act, int one, int two) {
        return ask(() -> {
            fours(series, act, one, two);
            return settle(series, joined(act, there(one, NULL), there(two, NULL)));
        });
    }

    int change(int series, int act, int v) {
        return ask(() -> {
            fours(series);
            within(0, act, 6);
            int[] low = {0, 1, 0, 10, 1, 0, -99};
            int[] high = {9, 8, 0, 87, Integer.MAX_VALUE, 8, 99};
            within(low[act], v, high[act]);
            need(act != 3 || v % 10 < v / 10, BAD);
            List<BigInteger> old = there(series, NULL);
            int n = old.size();
            List<BigInteger> next = new ArrayList<>();
            if (act == 4) {
                within(1, v, n);
                return settle(series, old.subList(0, v));
            }
            if (act == 5) {
                return settle(series, power(old, v));
            }
            for (int k = 0; k < n; k++) {
                if (act == 0) {
                    next.add(k < v ? BigInteger.ZERO : old.get(k - v));
                } else if (act == 1) {
                    next.add(k % v == 0 ? old.get(k / v) : BigInteger.ZERO);
                } else if (act == 2) {
                    next.add(k % 2 == 1 ? old.get(k).negate() : old.get(k));
                } else if (act == 3 && k % (v / 10) == v % 10) {
                    next.add(old.get(k));
                } else if (act == 6) {
                    next.add(narrow(old.get(k).multiply(BigInteger.valueOf(v))));
                }
            }
            need(!next.isEmpty(), NOT);
            return settle(series, next);
        });
    }

    int out(int series) {
        return ask(() -> {
            fours(series);
            int had = there(series, NULL).size();
            act(with(series, null));
            return had;
        });
    }

    int length(int v) {
        return ask(() -> {
            within(4, v, 40);
            int was = state.length;
            need(v != was, NOT);
            act(new State(state.series, v, state.draw));
            return was;
        });
    }

    int type(int letter) {
        return ask(() -> {
            within(32, letter, 126);
            need(tape.length() < 60, FULL);
            tape += (char) letter;
            return tape.length();
        });
    }

    int drift(int n) {
        return ask(() -> {
            within(1, n, 40);
            for (int k = 0; k < n; k++) {
                int draw = BigInteger.valueOf(state.draw).multiply(BigInteger.valueOf(1103515245))
                    .add(BigInteger.valueOf(12345)).mod(BigInteger.ONE.shiftLeft(31)).intValueExact();
                int x = draw >> 16;
                State next = with(x & 3, kind((x >> 2) % 3 + 1, (x >> 4) % 9 + 1, state.length));
                act(new State(next.series, next.length, draw));
            }
            return present();
        });
    }

    int undo() {
        return ask(() -> {
            need(!past.isEmpty(), NONE);
            state = past.get(past.size() - 1);
            past = past.subList(0, past.size() - 1);
            return past.size();
        });
    }

    int seed(int v) {
        return ask(() -> {
            within(0, v, Integer.MAX_VALUE);
            int was = state.draw;
            state = new State(state.series, state.length, v);
            return was;
        });
    }

    int term(int series, int k) {
        return ask(() -> {
            fours(series);
            within(0, k, Integer.MAX_VALUE);
            List<BigInteger> row = there(series, NULL);
            within(0, k, row.size() - 1);
            return row.get(k).intValueExact();
        });
    }

    private int present() {
        int set = 0;
        for (int k = 0; k < 4; k++) {
            set += state.series.get(k) == null ? 0 : 1 << k;
        }
        return set;
    }

    int count(int what) {
        return ask(() -> {
            within(0, what, 8);
            if (what >= 2 && what <= 5) {
                return state.series.get(what - 2) == null ? 0 : state.series.get(what - 2).size();
            }
            return what == 0 ? state.length : what == 1 ? present() : what == 6 ? whyBrackets
                : what == 7 ? whyLetter : past.size();
        });
    }

    // ---- texts

    private interface Tree {
        List<BigInteger> value(int brackets);
    }

    /** Where the reader stands, and how many brackets are open there. */
    private final class Reader {
        final String text;
        int place = 0;
        int open = 0;

        Reader(String text) {
            this.text = text;
        }

        char peek() {
            while (place < text.length() && text.charAt(place) == ' ') {
                place++;
            }
            return place < text.length() ? text.charAt(place) : '\n';
        }

        Refused fault() {
            return new Refused(FAULT - place);
        }

        void expect(char c) {
            if (peek() != c) {
                throw fault();
            }
            place++;
        }

        int number(int low, int high) {
            if (!Character.isDigit(peek())) {
                throw fault();
            }
            int start = place;
            int end = start + 1;
            if (end < text.length() && Character.isDigit(text.charAt(end))) {
                end++;
            }
            int v = Integer.parseInt(text.substring(start, end));
            if (v < low || v > high) {
                throw fault();
            }
            place = end;
            return v;
        }

        Tree sum() {
            Tree all = part();
            while (peek() == '+' || peek() == '-') {
                char letter = text.charAt(place++);
                all = both(letter, letter == '+' ? 0 : 1, all, part());
            }
            return all;
        }

        Tree part() {
            Tree all = powers();
            while (peek() == '*' || peek() == '/') {
                char letter = text.charAt(place++);
                all = both(letter, letter == '*' ? 2 : 3, all, powers());
            }
            return all;
        }

        Tree both(char letter, int act, Tree one, Tree two) {
            return brackets -> {
                List<BigInteger> a = one.value(brackets);
                List<BigInteger> b = two.value(brackets);
                return breaking(brackets, letter, () -> joined(act, a, b));
            };
        }

        Tree powers() {
            Tree base = atom();
            if (peek() != '^') {
                return base;
            }
            place++;
            char figure = peek();
            if (figure < '0' || figure > '8') {
                throw fault();
            }
            place++;
            return brackets -> {
                List<BigInteger> a = base.value(brackets);
                return breaking(brackets, '^', () -> power(a, figure - '0'));
            };
        }

        Tree atom() {
            char letter = peek();
            int n = state.length;
            if (letter == '(') {
                if (open == 6) {
                    throw fault();
                }
                open++;
                place++;
                Tree inside = sum();
                expect(')');
                open--;
                return brackets -> inside.value(brackets + 1);
            }
            int what = " tseq".indexOf(letter);
            if (what >= 1) {
                place++;
                expect('(');
                int d = number(what == 4 ? 0 : 1, what == 4 ? 39 : 9);
                expect(')');
                return brackets -> kind(what, d, n);
            }
            int v = number(0, 99);
            return brackets -> mark(0, v, n);
        }
    }

    private interface Step {
        List<BigInteger> made();
    }

    private List<BigInteger> breaking(int brackets, char letter, Step step) {
        try {
            return step.made();
        } catch (Refused refused) {
            whyBrackets = brackets;
            whyLetter = letter;
            throw refused;
        }
    }

    int work(int series) {
        return ask(() -> {
            fours(series);
            Reader reader = new Reader(tape);
            tape = "";
            Tree all = reader.sum();
            if (reader.peek() != '\n') {
                throw reader.fault();
            }
            whyBrackets = NONE;
            whyLetter = NONE;
            return settle(series, all.value(0));
        });
    }

    // ---- 2 looked for

    int first(int one, int two) {
        return ask(() -> {
            fours(one, two);
            List<BigInteger> a = there(one, NULL);
            List<BigInteger> b = there(two, NULL);
            for (int k = 0; k < a.size() && k < b.size(); k++) {
                need(a.get(k).equals(b.get(k)), k);
            }
            return NONE;
        });
    }

    private static int misfit(List<BigInteger> row, int m, int r, int by) {
        for (int k = 0; k < row.size(); k++) {
            if (k % m == r && row.get(k).mod(BigInteger.valueOf(by)).signum() != 0) {
                return k;
            }
        }
        return NONE;
    }

    private static void step(int m, int r) {
        within(1, m, 8);
        within(0, r, m - 1);
    }

    int fits(int series, int m, int r, int by, int what) {
        return ask(() -> {
            fours(series);
            step(m, r);
            within(2, by, 9);
            within(0, what, 1);
            int at = misfit(there(series, NULL), m, r, by);
            return what == 1 ? at : at == NONE ? 1 : 0;
        });
    }

    int found(int series, int m, int r) {
        return ask(() -> {
            fours(series);
            step(m, r);
            List<BigInteger> row = there(series, NULL);
            for (int code = 1000; code < 9000; code++) {
                int mm = code / 1000;
                int rr = code / 100 % 10;
                int by = code % 100;
                boolean told = rr < mm && by >= 2 && by <= 9 && 10 * mm + rr >= 10 * m + r;
                if (told && row.size() > rr + 2 * mm && misfit(row, mm, rr, by) == NONE) {
                    return code;
                }
            }
            return NONE;
        });
    }

    int guess(int series, int n, int c, int what) {
        return ask(() -> {
            fours(series);
            within(0, n, 6);
            within(0, c, 10);
            within(0, what, 1);
            List<BigInteger> row = there(series, NULL);
            within(0, n, row.size());
            BigInteger above = BigInteger.ONE;
            for (int k = 0; k < n; k++) {
                above = above.multiply(BigInteger.valueOf(row.get(k).testBit(0) ? c : 10 - c));
            }
            BigInteger below = BigInteger.TEN.pow(n);
            BigInteger both = above.gcd(below);
            return (what == 0 ? above : below).divide(both).intValueExact();
        });
    }

    int image() {
        keptState = state;
        keptPast = past;
        return 1;
    }

    int restore() {
        return ask(() -> {
            need(keptState != null, NONE);
            state = keptState;
            past = keptPast;
            return 1;
        });
    }

    // ---- 3 sheets

    private long[] taken(int sheet, int lane, long i, long n) {
        need(sheets[sheet] != null, NULL);
        need(lanes[sheet] == lane, CAST);
        need(i >= 0 && n >= 0 && i + n <= sheets[sheet].length, INDEX);
        return Arrays.copyOfRange(sheets[sheet], (int) i, (int) (i + n));
    }

    private long[] pairs(int sheet, int lane, int i, int n) {
        long[] items = taken(sheet, lane, i, 2L * n);
        for (int k = 0; k < 2 * n; k++) {
            need(k % 2 == 0 ? items[k] >= 1 && items[k] <= 12 : Math.abs(items[k]) <= 9, NOT);
        }
        return items;
    }

    private static int level(long[] items) {
        for (int level = 1; level <= 600; level++) {
            long below = 0;
            long above = 0;
            boolean divides = true;
            for (int k = 0; k < items.length; k += 2) {
                divides &= items[k + 1] == 0 || level % items[k] == 0;
                below += items[k] * items[k + 1];
                above += level / items[k] * items[k + 1];
            }
            if (divides && below % 24 == 0 && above % 24 == 0) {
                return level;
            }
        }
        return NONE;
    }

    int told(int sheet, int lane, int i, int n, int what) {
        return ask(() -> {
            fours(sheet, lane);
            within(1, n, 6);
            within(0, what, 2);
            long[] items = pairs(sheet, lane, i, n);
            int weight = 0;
            for (int k = 1; k < items.length; k += 2) {
                weight += (int) items[k];
            }
            if (what == 0) {
                return weight;
            }
            int level = level(items);
            if (what == 1) {
                return level;
            }
            need(level != NONE && weight >= 0, NONE);
            int index = level;
            for (int p = 2; p <= level; p++) {
                if (level % p == 0 && BigInteger.valueOf(p).isProbablePrime(30)) {
                    index = index * (p + 1) / p;
                }
            }
            return weight * index / 24 + 1;
        });
    }

    int quotient(int series, int sheet, int lane, int i, int n) {
        return ask(() -> {
            fours(series, sheet, lane);
            within(1, n, 6);
            long[] items = pairs(sheet, lane, i, n);
            List<BigInteger> all = one(state.length);
            for (int k = 0; k < items.length; k += 2) {
                List<BigInteger> euler = kind(3, (int) items[k], state.length);
                for (int turn = 0; turn < Math.abs(items[k + 1]); turn++) {
                    all = joined(items[k + 1] > 0 ? 2 : 3, all, euler);
                }
            }
            return settle(series, all);
        });
    }

    int wrought(int one, int two, int sheet, int lane, int i, int n) {
        return ask(() -> {
            fours(one, two, sheet, lane);
            within(1, n, 12);
            long[] items = taken(sheet, lane, i, n);
            List<BigInteger> a = there(one, NOT);
            List<BigInteger> b = there(two, NOT);
            List<BigInteger> want = new ArrayList<>();
            for (long item : items) {
                want.add(BigInteger.valueOf(item));
            }
            int set = 0;
            for (int act = 0; act < 4; act++) {
                int each = act;
                set += ask(() -> {
                    List<BigInteger> all = joined(each, a, b);
                    return all.size() >= n && all.subList(0, n).equals(want) ? 1 << each : 0;
                }) > 0 ? 1 << act : 0;
            }
            return set;
        });
    }

    private static long lowest(int lane, long v) {
        int bits = 8 << lane;
        return v << 64 - bits >> 64 - bits;
    }

    int film(int series, int sheet, int lane, int i) {
        return ask(() -> {
            fours(series, sheet, lane);
            List<BigInteger> row = there(series, NOT);
            taken(sheet, lane, i, row.size());
            for (int k = 0; k < row.size(); k++) {
                sheets[sheet][i + k] = lowest(lane, row.get(k).longValueExact());
            }
            return row.size();
        });
    }

    int sheet(int sheet, int lane, int n) {
        return ask(() -> {
            fours(sheet, lane);
            need(n <= 40, BAD);
            need(n >= 0, SIZE);
            sheets[sheet] = new long[n];
            lanes[sheet] = lane;
            return n;
        });
    }

    int drop(int sheet) {
        return ask(() -> {
            fours(sheet);
            need(sheets[sheet] != null, NULL);
            int had = sheets[sheet].length;
            sheets[sheet] = null;
            return had;
        });
    }

    int item(int sheet, int lane, int i, long v) {
        return ask(() -> {
            fours(sheet, lane);
            taken(sheet, lane, i, 1);
            sheets[sheet][i] = lowest(lane, v);
            return 1;
        });
    }

    int copy(int from, int i, int to, int j, int n) {
        return ask(() -> {
            fours(from, to);
            need(sheets[from] != null && sheets[to] != null, NULL);
            need(lanes[from] == lanes[to], CAST);
            long[] items = taken(from, lanes[from], i, n);
            taken(to, lanes[to], j, n);
            for (int k = 0; k < n; k++) {
                sheets[to][j + k] = items[k];
            }
            return n;
        });
    }
}
