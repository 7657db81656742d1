/**
 * Series of whole numbers of theta and eta kinds, made, joined, changed, told by texts and by
 * rows, looked through, and undone. Nothing is made after the constructor: every call works in
 * rows that the object holds from the start, so that a run of calls stays small.
 */
public final class EtaSeries {
    public static final int BAD = -1000001, NOT = -1000002, FULL = -1000003, NONE = -1000004, WIDE = -1000005, ROOT = -1000006, NULL = -1000011, CAST = -1000012, INDEX = -1000013, SIZE = -1000014;

    // What the parts inside answer when nothing is refused: no refusal is 0.
    private static final int FINE = 0;
    private static final int FAULT = -1000020;

    private static final int FOUR = 4;
    private static final int MOST_TERMS = 40;
    private static final int MOST_ITEMS = 40;
    private static final int MOST_LETTERS = 60;
    private static final int MOST_OPEN = 6;
    private static final int MOST_UNDONE = 6;
    private static final int MOST_LEVEL = 600;
    private static final int MOST_STEP = 8;
    private static final int LEAST_DIVISOR = 2;
    private static final int MOST_DIVISOR = 9;
    private static final long MOST_VALUE = 100000000L;

    private static final int ONE = 0;
    private static final int THETA = 1;
    private static final int PSI = 2;
    private static final int EULER = 3;
    private static final int Q = 4;

    private static final int PLUS = 0;
    private static final int LESS = 1;
    private static final int TIMES = 2;
    private static final int OVER = 3;

    private static final int UP = 0;
    private static final int STRETCHED = 1;
    private static final int TURNED = 2;
    private static final int PART = 3;
    private static final int CUT = 4;
    private static final int POWER = 5;
    private static final int FOLD = 6;

    private final Shelf now = new Shelf();
    private final Past past = new Past();
    private final Shelf keptNow = new Shelf();
    private final Past keptPast = new Past();
    private boolean kept = false;
    private final Mill mill = new Mill();
    private final Leaf[] leaves = new Leaf[FOUR];
    // What a call makes stands here until it is sure that nothing is refused.
    private final Row made = new Row();
    private final Row spare = new Row();

    public EtaSeries() {
        for (int k = 0; k < leaves.length; k++) {
            leaves[k] = new Leaf();
        }
    }

    // ---- 1 series

    public int make(int series, int what, int d) {
        if (!isOneOfFour(series) || !isKind(what, d)) {
            return BAD;
        }
        made.become(what, d, now.span);
        return settle(series, made);
    }

    public int join(int series, int act, int one, int two) {
        if (!isOneOfFour(series) || !isOneOfFour(act) || !isOneOfFour(one) || !isOneOfFour(two)) {
            return BAD;
        }
        if (now.isMissing(one) || now.isMissing(two)) {
            return NULL;
        }
        int trouble = made.becomeJoined(act, now.rows[one], now.rows[two]);
        return trouble != FINE ? trouble : settle(series, made);
    }

    public int change(int series, int act, int v) {
        if (!isOneOfFour(series) || !isChange(act, v)) {
            return BAD;
        }
        if (now.isMissing(series)) {
            return NULL;
        }
        Row old = now.rows[series];
        if (act == CUT && v > old.size) {
            return BAD;
        }
        int trouble = act == POWER ? made.becomePower(old, v, spare) : made.becomeChanged(act, v, old);
        return trouble != FINE ? trouble : settle(series, made);
    }

    public int out(int series) {
        if (!isOneOfFour(series)) {
            return BAD;
        }
        if (now.isMissing(series)) {
            return NULL;
        }
        int had = now.rows[series].size;
        past.remember(now);
        now.rows[series].begin(0);
        return had;
    }

    public int length(int v) {
        if (v < 4 || v > MOST_TERMS) {
            return BAD;
        }
        int was = now.span;
        if (v == was) {
            return NOT;
        }
        past.remember(now);
        now.span = v;
        return was;
    }

    public int type(int letter) {
        if (letter < 32 || letter > 126) {
            return BAD;
        }
        return mill.tape.write(letter) ? mill.tape.size : FULL;
    }

    public int work(int series) {
        if (!isOneOfFour(series)) {
            return BAD;
        }
        int fault = mill.tape.parse();
        mill.tape.size = 0;
        if (fault != FINE) {
            return fault;
        }
        mill.reset(now.span);
        int trouble = mill.workSum(0);
        return trouble != FINE ? trouble : settle(series, mill.result());
    }

    public int drift(int n) {
        if (n < 1 || n > 40) {
            return BAD;
        }
        for (int turn = 0; turn < n; turn++) {
            past.remember(now);
            now.turnDraw();
        }
        return now.present();
    }

    public int undo() {
        return past.bringBack(now) ? past.held : NONE;
    }

    public int seed(int v) {
        if (v < 0) {
            return BAD;
        }
        int was = now.draw;
        now.draw = v;
        return was;
    }

    public int term(int series, int k) {
        if (!isOneOfFour(series) || k < 0) {
            return BAD;
        }
        if (now.isMissing(series)) {
            return NULL;
        }
        Row row = now.rows[series];
        return k < row.size ? row.at(k) : BAD;
    }

    public int count(int what) {
        switch (what) {
            case 0:
                return now.span;
            case 1:
                return now.present();
            case 2:
            case 3:
            case 4:
            case 5:
                return now.rows[what - 2].size;
            case 6:
                return mill.brackets;
            case 7:
                return mill.letter;
            case 8:
                return past.held;
            default:
                return BAD;
        }
    }

    // ---- 2 looked for

    public int first(int one, int two) {
        if (!isOneOfFour(one) || !isOneOfFour(two)) {
            return BAD;
        }
        if (now.isMissing(one) || now.isMissing(two)) {
            return NULL;
        }
        return firstUnlike(now.rows[one], now.rows[two]);
    }

    public int fits(int series, int m, int r, int by, int what) {
        boolean divides = by >= LEAST_DIVISOR && by <= MOST_DIVISOR;
        if (!isOneOfFour(series) || !isStep(m, r) || !divides || !isWithin(what, 1)) {
            return BAD;
        }
        if (now.isMissing(series)) {
            return NULL;
        }
        int misfit = firstMisfit(now.rows[series], m, r, by);
        if (what == 1) {
            return misfit;
        }
        return misfit == NONE ? 1 : 0;
    }

    public int found(int series, int m, int r) {
        if (!isOneOfFour(series) || !isStep(m, r)) {
            return BAD;
        }
        if (now.isMissing(series)) {
            return NULL;
        }
        Row row = now.rows[series];
        for (int step = m; step <= MOST_STEP; step++) {
            for (int rest = step == m ? r : 0; rest < step; rest++) {
                int by = rest + 2 * step < row.size ? leastFitting(row, step, rest) : NONE;
                if (by != NONE) {
                    return 1000 * step + 100 * rest + by;
                }
            }
        }
        return NONE;
    }

    public int guess(int series, int n, int c, int what) {
        if (!isOneOfFour(series) || !isWithin(n, 6) || !isWithin(c, 10) || !isWithin(what, 1)) {
            return BAD;
        }
        if (now.isMissing(series)) {
            return NULL;
        }
        Row row = now.rows[series];
        return n > row.size ? BAD : chanceOfEven(row, n, c, what == 0);
    }

    public int image() {
        keptNow.take(now);
        keptPast.takeAll(past);
        kept = true;
        return 1;
    }

    public int restore() {
        if (!kept) {
            return NONE;
        }
        now.take(keptNow);
        past.takeAll(keptPast);
        return 1;
    }

    // ---- 3 sheets

    public int told(int sheet, int lane, int i, int n, int what) {
        if (!isOneOfFour(sheet) || !isOneOfFour(lane) || !isPairs(n) || !isWithin(what, 2)) {
            return BAD;
        }
        Leaf leaf = leaves[sheet];
        int refusal = leaf.refusePairs(lane, i, n);
        if (refusal != FINE) {
            return refusal;
        }
        if (what == 0) {
            return leaf.weight(i, n);
        }
        return what == 1 ? leaf.level(i, n) : leaf.bound(i, n);
    }

    public int quotient(int series, int sheet, int lane, int i, int n) {
        if (!isOneOfFour(series) || !isOneOfFour(sheet) || !isOneOfFour(lane) || !isPairs(n)) {
            return BAD;
        }
        Leaf leaf = leaves[sheet];
        int refusal = leaf.refusePairs(lane, i, n);
        if (refusal != FINE) {
            return refusal;
        }
        int trouble = mill.workQuotient(leaf, i, n, now.span);
        return trouble != FINE ? trouble : settle(series, mill.result());
    }

    public int wrought(int one, int two, int sheet, int lane, int i, int n) {
        if (!isOneOfFour(one) || !isOneOfFour(two) || !isOneOfFour(sheet) || !isOneOfFour(lane)) {
            return BAD;
        }
        if (n < 1 || n > 12) {
            return BAD;
        }
        Leaf leaf = leaves[sheet];
        int refusal = leaf.refuse(lane, i, n);
        if (refusal != FINE) {
            return refusal;
        }
        if (now.isMissing(one) || now.isMissing(two)) {
            return NOT;
        }
        int acts = 0;
        for (int act = PLUS; act <= OVER; act++) {
            int trouble = made.becomeJoined(act, now.rows[one], now.rows[two]);
            if (trouble == FINE && leaf.begins(i, n, made)) {
                acts |= 1 << act;
            }
        }
        return acts;
    }

    public int film(int series, int sheet, int lane, int i) {
        if (!isOneOfFour(series) || !isOneOfFour(sheet) || !isOneOfFour(lane)) {
            return BAD;
        }
        if (now.isMissing(series)) {
            return NOT;
        }
        Row row = now.rows[series];
        int refusal = leaves[sheet].refuse(lane, i, row.size);
        if (refusal != FINE) {
            return refusal;
        }
        for (int k = 0; k < row.size; k++) {
            leaves[sheet].put(i + k, row.at(k));
        }
        return row.size;
    }

    public int sheet(int sheet, int lane, int n) {
        if (!isOneOfFour(sheet) || !isOneOfFour(lane) || n > MOST_ITEMS) {
            return BAD;
        }
        if (n < 0) {
            return SIZE;
        }
        leaves[sheet].hold(lane, n);
        return n;
    }

    public int drop(int sheet) {
        if (!isOneOfFour(sheet)) {
            return BAD;
        }
        Leaf leaf = leaves[sheet];
        if (!leaf.held) {
            return NULL;
        }
        leaf.held = false;
        return leaf.size;
    }

    public int item(int sheet, int lane, int i, long v) {
        if (!isOneOfFour(sheet) || !isOneOfFour(lane)) {
            return BAD;
        }
        int refusal = leaves[sheet].refuse(lane, i, 1);
        if (refusal != FINE) {
            return refusal;
        }
        leaves[sheet].put(i, v);
        return 1;
    }

    public int copy(int from, int i, int to, int j, int n) {
        if (!isOneOfFour(from) || !isOneOfFour(to)) {
            return BAD;
        }
        Leaf source = leaves[from];
        Leaf target = leaves[to];
        if (!source.held || !target.held) {
            return NULL;
        }
        if (source.lane != target.lane) {
            return CAST;
        }
        if (!source.hasItems(i, n) || !target.hasItems(j, n)) {
            return INDEX;
        }
        // arraycopy takes all items ahead where the two ranges lie over one another.
        System.arraycopy(source.items, i, target.items, j, n);
        return n;
    }

    // ---- what the calls share

    private static boolean isOneOfFour(int k) {
        return k >= 0 && k < FOUR;
    }

    private static boolean isWithin(int v, int most) {
        return v >= 0 && v <= most;
    }

    private static boolean isPairs(int n) {
        return n >= 1 && n <= 6;
    }

    private static boolean isStep(int m, int r) {
        return m >= 1 && m <= MOST_STEP && r >= 0 && r < m;
    }

    private static boolean isKind(int what, int d) {
        switch (what) {
            case ONE:
                return d == 0;
            case THETA:
            case PSI:
            case EULER:
                return d >= 1 && d <= 9;
            case Q:
                return d >= 0 && d < MOST_TERMS;
            default:
                return false;
        }
    }

    /** Whether v is as told, as far as that does not hang on how many terms there are. */
    private static boolean isChange(int act, int v) {
        switch (act) {
            case UP:
                return isWithin(v, 9);
            case STRETCHED:
                return v >= 1 && v <= 8;
            case TURNED:
                return v == 0;
            case PART:
                return v >= 0 && isStep(v / 10, v % 10);
            case CUT:
                return v >= 1;
            case POWER:
                return isWithin(v, 8);
            case FOLD:
                return v >= -99 && v <= 99;
            default:
                return false;
        }
    }

    private static boolean isWide(long v) {
        return v > MOST_VALUE || v < -MOST_VALUE;
    }

    /** Puts what was made in a series' place, which may be undone: how many terms it has. */
    private int settle(int series, Row row) {
        past.remember(now);
        now.rows[series].take(row);
        return row.size;
    }

    private static int firstUnlike(Row one, Row two) {
        int both = Math.min(one.size, two.size);
        for (int k = 0; k < both; k++) {
            if (one.at(k) != two.at(k)) {
                return k;
            }
        }
        return NONE;
    }

    private static int firstMisfit(Row row, int m, int r, int by) {
        if (m < 1 || by < 1) {
            return NONE;
        }
        for (int k = r; k < row.size; k += m) {
            if (row.at(k) % by != 0) {
                return k;
            }
        }
        return NONE;
    }

    private static int leastFitting(Row row, int m, int r) {
        for (int by = LEAST_DIVISOR; by <= MOST_DIVISOR; by++) {
            if (firstMisfit(row, m, r, by) == NONE) {
                return by;
            }
        }
        return NONE;
    }

    private static int chanceOfEven(Row row, int n, int c, boolean above) {
        int over = 1;
        int under = 1;
        for (int k = 0; k < n; k++) {
            over *= (row.at(k) & 1) == 0 ? 10 - c : c;
            under *= 10;
        }
        // Below stands 10 to the n, so that only n twos and n fives can be in both.
        for (int k = 0; k < n; k++) {
            if (over % 2 == 0 && under % 2 == 0) {
                over /= 2;
                under /= 2;
            }
            if (over % 5 == 0 && under % 5 == 0) {
                over /= 5;
                under /= 5;
            }
        }
        return above ? over : under;
    }

    /** A series; one without terms is missing. */
    private static final class Row {
        private final int[] terms = new int[MOST_TERMS];
        private int size = 0;

        /** The row has n terms then, all 0. */
        private void begin(int n) {
            size = Math.max(0, Math.min(n, terms.length));
            for (int k = 0; k < size; k++) {
                terms[k] = 0;
            }
        }

        /** Term k; 0 at places that the row does not have. */
        private int at(int k) {
            return k >= 0 && k < size ? terms[k] : 0;
        }

        /** Term k becomes v; places that the row does not have are passed over. */
        private void put(int k, long v) {
            if (k >= 0 && k < size) {
                terms[k] = (int) v;
            }
        }

        private void take(Row other) {
            size = other.size;
            System.arraycopy(other.terms, 0, terms, 0, terms.length);
        }

        private void become(int kind, int d, int n) {
            begin(n);
            put(kind == Q ? d : 0, 1);
            for (int k = 1; k < size; k++) {
                if (kind == THETA) {
                    put(d * k * k, 2);
                } else if (kind == PSI) {
                    put(d * k * (k + 1) / 2, 1);
                } else if (kind == EULER) {
                    // Euler's pentagonal numbers: all other terms of the product fall away.
                    int sign = (k & 1) == 0 ? 1 : -1;
                    put(d * (k * (3 * k - 1) / 2), sign);
                    put(d * (k * (3 * k + 1) / 2), sign);
                }
            }
        }

        /** This row is neither of the two. */
        private int becomeJoined(int act, Row one, Row two) {
            switch (act) {
                case PLUS:
                    return sum(one, two, 1);
                case LESS:
                    return sum(one, two, -1);
                case TIMES:
                    return product(one, two);
                default:
                    return ratio(one, two);
            }
        }

        private int sum(Row one, Row two, int sign) {
            begin(Math.min(one.size, two.size));
            for (int k = 0; k < size; k++) {
                long v = (long) one.at(k) + (long) sign * two.at(k);
                if (isWide(v)) {
                    return WIDE;
                }
                put(k, v);
            }
            return FINE;
        }

        private int product(Row one, Row two) {
            begin(Math.min(one.size, two.size));
            for (int k = 0; k < size; k++) {
                long v = 0;
                for (int j = 0; j <= k; j++) {
                    v += (long) one.terms[j] * two.terms[k - j];
                }
                if (isWide(v)) {
                    return WIDE;
                }
                put(k, v);
            }
            return FINE;
        }

        private int ratio(Row one, Row two) {
            int root = two.at(0);
            if (root != 1 && root != -1) {
                return ROOT;
            }
            begin(Math.min(one.size, two.size));
            for (int k = 0; k < size; k++) {
                long v = one.terms[k];
                for (int j = 1; j <= k; j++) {
                    v -= (long) two.terms[j] * terms[k - j];
                }
                // To divide by 1 or -1 is to multiply with it.
                v *= root;
                if (isWide(v)) {
                    return WIDE;
                }
                put(k, v);
            }
            return FINE;
        }

        /** The rows are three different ones. */
        private int becomePower(Row base, int v, Row step) {
            begin(base.size);
            put(0, 1);
            for (int turn = 0; turn < v; turn++) {
                int trouble = step.product(this, base);
                if (trouble != FINE) {
                    return trouble;
                }
                take(step);
            }
            return FINE;
        }

        /** All changes but POWER; this row is not the old one. */
        private int becomeChanged(int act, int v, Row old) {
            if (act == PART) {
                return pick(v / 10, v % 10, old);
            }
            begin(act == CUT ? v : old.size);
            for (int k = 0; k < old.size; k++) {
                long was = old.at(k);
                if (act == UP) {
                    put(k + v, was);
                } else if (act == STRETCHED) {
                    put(k * v, was);
                } else if (act == TURNED) {
                    put(k, (k & 1) == 0 ? was : -was);
                } else if (act == CUT) {
                    put(k, was);
                } else if (isWide(was * v)) {
                    return WIDE;
                } else {
                    put(k, was * v);
                }
            }
            return FINE;
        }

        private int pick(int m, int r, Row old) {
            if (m < 1 || r >= old.size) {
                return NOT;
            }
            begin((old.size - r + m - 1) / m);
            for (int k = 0; k < size; k++) {
                put(k, old.at(r + k * m));
            }
            return FINE;
        }
    }

    /** What an act changes and undoing brings back: the four series, THE LENGTH, THE DRAW. */
    private static final class Shelf {
        private final Row[] rows = new Row[FOUR];
        private int span = 24;
        private int draw = 1;

        private Shelf() {
            for (int k = 0; k < rows.length; k++) {
                rows[k] = new Row();
            }
        }

        private void take(Shelf other) {
            for (int k = 0; k < rows.length; k++) {
                rows[k].take(other.rows[k]);
            }
            span = other.span;
            draw = other.draw;
        }

        private boolean isMissing(int series) {
            return !isOneOfFour(series) || rows[series].size == 0;
        }

        private int present() {
            int set = 0;
            for (int k = 0; k < rows.length; k++) {
                if (rows[k].size > 0) {
                    set |= 1 << k;
                }
            }
            return set;
        }

        private void turnDraw() {
            draw = (int) ((draw * 1103515245L + 12345L) & 0x7fffffffL);
            int x = draw / 65536;
            rows[Math.floorMod(x, FOUR)].become(THETA + x / 4 % 3, x / 16 % 9 + 1, span);
        }
    }

    /** What stood ahead of the latest acts, in a ring that loses the oldest. */
    private static final class Past {
        private final Shelf[] ring = new Shelf[MOST_UNDONE];
        private int held = 0;
        private int next = 0;

        private Past() {
            for (int k = 0; k < ring.length; k++) {
                ring[k] = new Shelf();
            }
        }

        private void remember(Shelf shelf) {
            ring[Math.floorMod(next, MOST_UNDONE)].take(shelf);
            next = Math.floorMod(next + 1, MOST_UNDONE);
            held = Math.min(held + 1, MOST_UNDONE);
        }

        private boolean bringBack(Shelf shelf) {
            if (held < 1) {
                return false;
            }
            next = Math.floorMod(next - 1, MOST_UNDONE);
            shelf.take(ring[next]);
            held--;
            return true;
        }

        private void takeAll(Past other) {
            for (int k = 0; k < ring.length; k++) {
                ring[k].take(other.ring[k]);
            }
            held = other.held;
            next = other.next;
        }
    }

    /** THE TAPE, and the signs that its text is made of, once it has been parsed. */
    private static final class Tape {
        private static final int BROKEN = 0;
        private static final int ATOM_DUE = 1;
        private static final int BEHIND_ATOM = 2;
        private static final int BEHIND_POWER = 3;

        private final int[] letters = new int[MOST_LETTERS];
        private int size = 0;
        private int place = 0;
        private int open = 0;
        private final int[] signs = new int[MOST_LETTERS];
        private final int[] values = new int[MOST_LETTERS];
        private int signCount = 0;

        private boolean write(int letter) {
            if (size < 0 || size >= letters.length) {
                return false;
            }
            letters[size] = letter;
            size++;
            return true;
        }

        /** FINE, or the FAULT of the text. */
        private int parse() {
            place = 0;
            open = 0;
            signCount = 0;
            int state = ATOM_DUE;
            // Each turn reads a letter at least, so that the turns don't run out ahead of the text.
            for (int turn = 0; turn <= size; turn++) {
                skipBlanks();
                if (state != ATOM_DUE && open == 0 && place >= size) {
                    return FINE;
                }
                state = state == ATOM_DUE ? readAtom() : readBehindAtom(state);
                if (state == BROKEN) {
                    return FAULT - place;
                }
            }
            return FAULT - place;
        }

        /** The letter at the place; at the end 0, which is no letter. */
        private int here() {
            return place >= 0 && place < size && place < letters.length ? letters[place] : 0;
        }

        private void skipBlanks() {
            for (int turn = 0; turn < MOST_LETTERS && here() == ' '; turn++) {
                place++;
            }
        }

        private boolean digitIsHere() {
            return here() >= '0' && here() <= '9';
        }

        private int readAtom() {
            int letter = here();
            if (letter == '(') {
                return readOpen();
            }
            if (letter == 'e' || letter == 't' || letter == 's' || letter == 'q') {
                return readFamily(letter);
            }
            if (!digitIsHere()) {
                return BROKEN;
            }
            note('0', readNumber());
            return BEHIND_ATOM;
        }

        private int readOpen() {
            if (open >= MOST_OPEN) {
                return BROKEN;
            }
            open++;
            return pass('(', ATOM_DUE);
        }

        private int readFamily(int letter) {
            place++;
            skipBlanks();
            if (here() != '(') {
                return BROKEN;
            }
            place++;
            skipBlanks();
            if (!digitIsHere()) {
                return BROKEN;
            }
            int start = place;
            int d = readNumber();
            if (!isKind(kindOf(letter), d)) {
                place = start;
                return BROKEN;
            }
            skipBlanks();
            if (here() != ')') {
                return BROKEN;
            }
            place++;
            note(letter, d);
            return BEHIND_ATOM;
        }

        private int readBehindAtom(int state) {
            int letter = here();
            if (letter == '^' && state == BEHIND_ATOM) {
                return readFigure();
            }
            if (letter == '+' || letter == '-' || letter == '*' || letter == '/') {
                return pass(letter, ATOM_DUE);
            }
            if (letter == ')' && open > 0) {
                open--;
                return pass(letter, BEHIND_ATOM);
            }
            return BROKEN;
        }

        private int readFigure() {
            place++;
            skipBlanks();
            int figure = here();
            if (figure < '0' || figure > '8') {
                return BROKEN;
            }
            place++;
            note('^', figure - '0');
            return BEHIND_POWER;
        }

        /** One or two digits that stand side by side; a third one is left to be a FAULT. */
        private int readNumber() {
            int v = 0;
            for (int k = 0; k < 2 && digitIsHere(); k++) {
                v = 10 * v + here() - '0';
                place++;
            }
            return v;
        }

        private int pass(int letter, int state) {
            place++;
            note(letter, 0);
            return state;
        }

        private void note(int sign, int value) {
            if (signCount >= 0 && signCount < signs.length) {
                signs[signCount] = sign;
                values[signCount] = value;
                signCount++;
            }
        }

        private int signAt(int k) {
            return k >= 0 && k < signCount && k < signs.length ? signs[k] : 0;
        }

        private int valueAt(int k) {
            return k >= 0 && k < signCount && k < values.length ? values[k] : 0;
        }

        private static int kindOf(int letter) {
            switch (letter) {
                case 'e':
                    return EULER;
                case 't':
                    return THETA;
                case 's':
                    return PSI;
                default:
                    return Q;
            }
        }
    }

    /** Holds THE TAPE; works out texts without FAULT, and quotients. At each depth of brackets it has own rows. */
    private static final class Mill {
        private final Tape tape = new Tape();
        private final Row[] sums = new Row[MOST_OPEN + 1];
        private final Row[] parts = new Row[MOST_OPEN + 1];
        private final Row[] atoms = new Row[MOST_OPEN + 1];
        private final Row joined = new Row();
        private final Row step = new Row();
        private int place = 0;
        private int span = 0;
        private int brackets = NONE;
        private int letter = NONE;

        private Mill() {
            for (int k = 0; k <= MOST_OPEN; k++) {
                sums[k] = new Row();
                parts[k] = new Row();
                atoms[k] = new Row();
            }
        }

        private Row result() {
            return sums[0];
        }

        private void reset(int terms) {
            place = 0;
            span = terms;
            brackets = NONE;
            letter = NONE;
        }

        private int workSum(int depth) {
            if (depth < 0 || depth > MOST_OPEN) {
                return BAD;
            }
            int trouble = workPart(depth);
            sums[depth].take(parts[depth]);
            for (int turn = 0; turn < MOST_LETTERS && trouble == FINE; turn++) {
                int sign = tape.signAt(place);
                if (sign != '+' && sign != '-') {
                    break;
                }
                place++;
                trouble = workPart(depth);
                if (trouble == FINE) {
                    trouble = combine(sums[depth], sign, parts[depth], depth);
                }
            }
            return trouble;
        }

        private int workPart(int depth) {
            int trouble = workPower(depth);
            parts[depth].take(atoms[depth]);
            for (int turn = 0; turn < MOST_LETTERS && trouble == FINE; turn++) {
                int sign = tape.signAt(place);
                if (sign != '*' && sign != '/') {
                    break;
                }
                place++;
                trouble = workPower(depth);
                if (trouble == FINE) {
                    trouble = combine(parts[depth], sign, atoms[depth], depth);
                }
            }
            return trouble;
        }

        private int workPower(int depth) {
            int trouble = workAtom(depth);
            if (trouble != FINE || tape.signAt(place) != '^') {
                return trouble;
            }
            trouble = joined.becomePower(atoms[depth], tape.valueAt(place), step);
            place++;
            return finish(trouble, atoms[depth], '^', depth);
        }

        private int workAtom(int depth) {
            int sign = tape.signAt(place);
            int value = tape.valueAt(place);
            place++;
            if (sign == '(') {
                int trouble = workSum(depth + 1);
                if (trouble == FINE) {
                    atoms[depth].take(sums[depth + 1]);
                    place++;
                }
                return trouble;
            }
            if (sign == '0') {
                atoms[depth].begin(span);
                atoms[depth].put(0, value);
            } else {
                atoms[depth].become(Tape.kindOf(sign), value, span);
            }
            return FINE;
        }

        /** The first row becomes what the two are joined to at a letter. */
        private int combine(Row one, int sign, Row two, int depth) {
            return finish(joined.becomeJoined(actOf(sign), one, two), one, sign, depth);
        }

        /** What was joined comes to its place; or WHY it broke is kept. */
        private int finish(int trouble, Row target, int sign, int depth) {
            if (trouble == FINE) {
                target.take(joined);
            } else {
                brackets = depth;
                letter = sign;
            }
            return trouble;
        }

        private static int actOf(int sign) {
            switch (sign) {
                case '+':
                    return PLUS;
                case '-':
                    return LESS;
                case '*':
                    return TIMES;
                default:
                    return OVER;
            }
        }

        /** The pairs from item i on are as told. */
        private int workQuotient(Leaf leaf, int i, int n, int terms) {
            Row whole = sums[0];
            Row euler = atoms[0];
            whole.become(ONE, 0, terms);
            for (int pair = 0; pair < n; pair++) {
                int e = leaf.exponent(i, pair);
                euler.become(EULER, leaf.divisor(i, pair), terms);
                for (int turn = 0; turn < Math.abs(e); turn++) {
                    int trouble = joined.becomeJoined(e > 0 ? TIMES : OVER, whole, euler);
                    if (trouble != FINE) {
                        return trouble;
                    }
                    whole.take(joined);
                }
            }
            return FINE;
        }
    }

    /** A sheet; where nothing is held there is no row. */
    private static final class Leaf {
        private final long[] items = new long[MOST_ITEMS];
        private boolean held = false;
        private int lane = 0;
        private int size = 0;

        private void hold(int newLane, int n) {
            held = true;
            lane = newLane;
            size = Math.max(0, Math.min(n, items.length));
            for (int k = 0; k < items.length; k++) {
                items[k] = 0;
            }
        }

        private boolean hasItems(int i, int n) {
            return i >= 0 && n >= 0 && (long) i + n <= size;
        }

        /** FINE, or why n items from i on can't be taken as those of a row of a lane. */
        private int refuse(int asLane, int i, int n) {
            if (!held) {
                return NULL;
            }
            if (lane != asLane) {
                return CAST;
            }
            return hasItems(i, n) ? FINE : INDEX;
        }

        /** The same of n pairs, which must be those of a quotient. */
        private int refusePairs(int asLane, int i, int n) {
            int refusal = refuse(asLane, i, 2 * n);
            for (int pair = 0; pair < n && refusal == FINE; pair++) {
                long d = at(i + 2 * pair);
                long e = at(i + 2 * pair + 1);
                if (d < 1 || d > 12 || e < -9 || e > 9) {
                    refusal = NOT;
                }
            }
            return refusal;
        }

        private long at(int i) {
            return i >= 0 && i < size ? items[i] : 0;
        }

        /** Item i becomes the lowest bits of v. */
        private void put(int i, long v) {
            if (i < 0 || i >= size) {
                return;
            }
            switch (lane) {
                case 0:
                    items[i] = (byte) v;
                    break;
                case 1:
                    items[i] = (short) v;
                    break;
                case 2:
                    items[i] = (int) v;
                    break;
                default:
                    items[i] = v;
                    break;
            }
        }

        private boolean begins(int i, int n, Row row) {
            for (int k = 0; k < n; k++) {
                if (at(i + k) != row.at(k)) {
                    return false;
                }
            }
            return n <= row.size;
        }

        private int divisor(int i, int pair) {
            return (int) at(i + 2 * pair);
        }

        private int exponent(int i, int pair) {
            return (int) at(i + 2 * pair + 1);
        }

        private int weight(int i, int n) {
            int all = 0;
            for (int pair = 0; pair < n; pair++) {
                all += exponent(i, pair);
            }
            return all;
        }

        private int level(int i, int n) {
            for (int level = 1; level <= MOST_LEVEL; level++) {
                if (isLevel(level, i, n)) {
                    return level;
                }
            }
            return NONE;
        }

        private boolean isLevel(int level, int i, int n) {
            int below = 0;
            int above = 0;
            for (int pair = 0; pair < n; pair++) {
                int d = divisor(i, pair);
                int e = exponent(i, pair);
                if (e == 0) {
                    continue;
                }
                if (d < 1 || level % d != 0) {
                    return false;
                }
                below += d * e;
                above += level / d * e;
            }
            return below % 24 == 0 && above % 24 == 0;
        }

        private int bound(int i, int n) {
            int weight = weight(i, n);
            int level = level(i, n);
            return level == NONE || weight < 0 ? NONE : weight * indexOf(level) / 24 + 1;
        }

        private static int indexOf(int level) {
            int index = level;
            int left = level;
            for (int p = 2; p <= left; p++) {
                if (left % p != 0) {
                    continue;
                }
                // Only other primes were divided out so far, so that p still divides the index.
                index = index / p * (p + 1);
                for (int turn = 0; turn < MOST_LEVEL && left % p == 0; turn++) {
                    left /= p;
                }
            }
            return index;
        }
    }
}
