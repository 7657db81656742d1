/** Each promise of the document by its number: ordinary inputs, the edges it names, wrong inputs. */
public final class PromiseTest {
    private static final int BAD = -1000001, NOT = -1000002, FULL = -1000003, NONE = -1000004, WIDE = -1000005,
        ROOT = -1000006, NULL = -1000011, CAST = -1000012, INDEX = -1000013, SIZE = -1000014, FAULT = -1000020;
    private static final int LOW = Integer.MIN_VALUE, HIGH = Integer.MAX_VALUE;
    private static final int PLUS = 0, LESS = 1, TIMES = 2, OVER = 3;
    private static final int UP = 0, STRETCHED = 1, TURNED = 2, PART = 3, CUT = 4, POWER = 5, FOLD = 6;

    private static final Check CHECK = new Check("PromiseTest");

    public static void main(String[] args) {
        promise1New();
        promise2Make();
        promise3Join();
        promise3JoinRefused();
        promise4Change();
        promise4ChangeRefused();
        promise5Out();
        promise6Length();
        promise7Type();
        promise8Texts();
        promise8Faults();
        promise8Why();
        promise8Tape();
        promise9Drift();
        promise10Undo();
        promise10UndoEach();
        promise11Seed();
        promise12Term();
        promise13Count();
        promise14First();
        promise15Fits();
        promise16Found();
        promise17Guess();
        promise18Image();
        promise19Restore();
        promise20Told();
        promise20ToldRefused();
        promise21Quotient();
        promise22Wrought();
        promise23Film();
        promise24Sheet();
        promise25Drop();
        promise26Item();
        promise27Copy();
        CHECK.end();
    }

    private static void due(String what, long got, long want) {
        CHECK.due(what, got, want);
    }

    /** A series has these terms first, and `size` in all. */
    private static void terms(String what, EtaSeries x, int series, int size, int... first) {
        due(what + ", terms", x.count(2 + series), size);
        for (int k = 0; k < first.length; k++) {
            due(what + ", term " + k, x.term(series, k), first[k]);
        }
    }

    /** A series is 0 but at pairs of place and term. */
    private static void sparse(String what, EtaSeries x, int series, int size, int... pairs) {
        int[] all = new int[size];
        for (int k = 0; k < pairs.length; k += 2) {
            all[pairs[k]] = pairs[k + 1];
        }
        terms(what, x, series, size, all);
    }

    private static int work(EtaSeries x, int series, String text) {
        for (int k = 0; k < text.length(); k++) {
            due("type " + text.charAt(k) + " of " + text, x.type(text.charAt(k)), k + 1);
        }
        return x.work(series);
    }

    private static EtaSeries working(int series, String text) {
        EtaSeries x = new EtaSeries();
        due(text, work(x, series, text), 24);
        return x;
    }

    private static void row(EtaSeries x, int sheet, int lane, long... items) {
        due("row", x.sheet(sheet, lane, items.length), items.length);
        for (int k = 0; k < items.length; k++) {
            due("row's item " + k, x.item(sheet, lane, k, items[k]), 1);
        }
    }

    private static void promise1New() {
        EtaSeries x = new EtaSeries();
        due("length", x.count(0), 24);
        due("series", x.count(1), 0);
        for (int s = 0; s < 4; s++) {
            due("series " + s, x.count(2 + s), 0);
            due("term of none", x.term(s, 0), NULL);
            due("no sheet", x.drop(s), NULL);
        }
        due("why", x.count(6), NONE);
        due("why", x.count(7), NONE);
        due("undone", x.count(8), 0);
        due("undo", x.undo(), NONE);
        due("restore", x.restore(), NONE);
        due("tape", x.type('1'), 1);
        due("draw", x.seed(5), 1);
        EtaSeries y = new EtaSeries();
        due("another object's draw", y.seed(6), 1);
    }

    private static void promise2Make() {
        EtaSeries x = new EtaSeries();
        due("ONE", x.make(0, 0, 0), 24);
        sparse("ONE", x, 0, 24, 0, 1);
        due("THETA 1", x.make(1, 1, 1), 24);
        sparse("THETA 1", x, 1, 24, 0, 1, 1, 2, 4, 2, 9, 2, 16, 2);
        due("THETA 9", x.make(1, 1, 9), 24);
        sparse("THETA 9", x, 1, 24, 0, 1, 9, 2);
        due("PSI 2", x.make(2, 2, 2), 24);
        sparse("PSI 2", x, 2, 24, 0, 1, 2, 1, 6, 1, 12, 1, 20, 1);
        due("EULER 1", x.make(3, 3, 1), 24);
        sparse("EULER 1", x, 3, 24, 0, 1, 1, -1, 2, -1, 5, 1, 7, 1, 12, -1, 15, -1, 22, 1);
        due("EULER 3", x.make(3, 3, 3), 24);
        sparse("EULER 3", x, 3, 24, 0, 1, 3, -1, 6, -1, 15, 1, 21, 1);
        due("Q 0", x.make(0, 4, 0), 24);
        sparse("Q 0", x, 0, 24, 0, 1);
        due("Q 23", x.make(0, 4, 23), 24);
        sparse("Q 23", x, 0, 24, 23, 1);
        due("Q 24", x.make(0, 4, 24), 24);
        sparse("Q 24", x, 0, 24);
        x.length(40);
        due("EULER of 40", x.make(0, 3, 1), 40);
        sparse("EULER of 40", x, 0, 40, 0, 1, 1, -1, 2, -1, 5, 1, 7, 1, 12, -1, 15, -1, 22, 1, 26, 1, 35, -1);
        x.length(4);
        due("PSI of 4", x.make(0, 2, 1), 4);
        sparse("PSI of 4", x, 0, 4, 0, 1, 1, 1, 3, 1);
        int undone = x.count(8);
        int[][] bad = {{-1, 0, 0}, {4, 0, 0}, {LOW, 0, 0}, {HIGH, 0, 0}, {0, -1, 1}, {0, 5, 1}, {0, 0, 1}, {0, 0, -1},
            {0, 1, 0}, {0, 1, 10}, {0, 2, 0}, {0, 2, 10}, {0, 3, 0}, {0, 3, 10}, {0, 4, -1}, {0, 4, 40}, {0, 3, HIGH}};
        for (int[] b : bad) {
            due("make " + b[0] + " " + b[1] + " " + b[2], x.make(b[0], b[1], b[2]), BAD);
        }
        due("nothing more to undo", x.count(8), undone);
    }

    private static void promise3Join() {
        EtaSeries x = new EtaSeries();
        x.make(0, 1, 1);
        x.make(1, 3, 1);
        due("PLUS", x.join(2, PLUS, 0, 1), 24);
        terms("PLUS", x, 2, 24, 2, 1, -1, 0, 2, 1, 0, 1, 0, 2);
        due("LESS", x.join(2, LESS, 0, 1), 24);
        terms("LESS", x, 2, 24, 0, 3, 1, 0, 2, -1, 0, -1, 0, 2);
        due("TIMES", x.join(2, TIMES, 0, 0), 24);
        terms("two squares", x, 2, 24, 1, 4, 4, 0, 4, 8, 0, 0, 4, 4, 8);
        due("OVER", x.join(3, OVER, 2, 0), 24);
        due("OVER takes TIMES back", x.first(3, 0), NONE);
        x.make(2, 0, 0);
        due("partitions", x.join(2, OVER, 2, 1), 24);
        terms("partitions", x, 2, 24, 1, 1, 2, 3, 5, 7, 11, 15, 22, 30, 42, 56, 77, 101, 135, 176, 231, 297, 385, 490,
            627, 792, 1002, 1255);
        x.change(1, FOLD, -1);
        x.make(0, 0, 0);
        due("OVER what begins with -1", x.join(3, OVER, 0, 1), 24);
        terms("OVER -1", x, 3, 24, -1, -1, -2, -3, -5, -7);
        x.change(1, CUT, 5);
        due("the shorter second", x.join(3, PLUS, 0, 1), 5);
        terms("the shorter second", x, 3, 5, 0, 1, 1, 0, 0);
        due("the shorter first", x.join(3, TIMES, 1, 0), 5);
        due("over the shorter", x.join(3, OVER, 0, 1), 5);
        due("onto one of the two", x.join(1, PLUS, 1, 1), 5);
        terms("onto one of the two", x, 1, 5, -2, 2, 2, 0, 0);
    }

    private static void promise3JoinRefused() {
        EtaSeries x = new EtaSeries();
        int[][] bad = {{-1, 0, 0, 0}, {4, 0, 0, 0}, {0, -1, 0, 0}, {0, 4, 0, 0}, {0, 0, -1, 0}, {0, 0, 4, 0},
            {0, 0, 0, -1}, {0, 0, 0, 4}};
        for (int[] b : bad) {
            due("BAD ahead of NULL", x.join(b[0], b[1], b[2], b[3]), BAD);
        }
        due("none", x.join(0, PLUS, 0, 1), NULL);
        x.make(0, 0, 0);
        due("no second", x.join(0, PLUS, 0, 1), NULL);
        due("no first", x.join(0, PLUS, 1, 0), NULL);
        due("no second ahead of ROOT", x.join(0, OVER, 0, 1), NULL);
        x.make(1, 4, 1);
        due("ROOT 0", x.join(2, OVER, 0, 1), ROOT);
        x.make(1, 0, 0);
        x.change(1, FOLD, 2);
        due("ROOT 2", x.join(2, OVER, 0, 1), ROOT);
        work(x, 0, "99^4");
        due("just below", x.term(0, 0), 96059601);
        due("PLUS too great", x.join(2, PLUS, 0, 0), WIDE);
        x.make(1, 0, 0);
        x.change(1, FOLD, -2);
        due("TIMES too great", x.join(2, TIMES, 0, 1), WIDE);
        due("LESS is not", x.join(2, LESS, 0, 0), 24);
        due("ROOT ahead of WIDE", x.join(2, OVER, 0, 0), ROOT);
        x.make(2, 4, 1);
        x.change(2, FOLD, 99);
        x.make(1, 0, 0);
        x.join(2, PLUS, 1, 2);
        due("OVER too great", x.join(3, OVER, 0, 2), WIDE);
        terms("what is refused changes nothing", x, 3, 0);
        EtaSeries y = new EtaSeries();
        work(y, 0, "99^4+99^3*4+99^2*6+99*4+1");
        due("100000000", y.term(0, 0), 100000000);
        y.make(1, 0, 0);
        due("1 more", y.join(2, PLUS, 0, 1), WIDE);
        y.change(0, FOLD, -1);
        due("1 less", y.join(2, LESS, 0, 1), WIDE);
        due("1 less than that", y.join(2, PLUS, 0, 1), 24);
        due("-99999999", y.term(2, 0), -99999999);
        // a sum of products counts as a whole: 10^16 less 10^16 is 0
        work(y, 2, "1+q(1)");
        y.join(2, TIMES, 2, 0);
        y.make(3, 4, 1);
        y.join(3, LESS, 1, 3);
        due("whole sums alone", y.join(3, TIMES, 2, 3), 24);
        sparse("whole sums alone", y, 3, 24, 0, -100000000, 2, 100000000);
    }

    private static void promise4Change() {
        EtaSeries x = new EtaSeries();
        x.make(0, 2, 1);
        due("UP 0", x.change(0, UP, 0), 24);
        terms("UP 0", x, 0, 24, 1, 1, 0, 1, 0, 0, 1);
        due("UP 2", x.change(0, UP, 2), 24);
        sparse("UP 2", x, 0, 24, 2, 1, 3, 1, 5, 1, 8, 1, 12, 1, 17, 1, 23, 1);
        due("UP 9", x.change(0, UP, 9), 24);
        sparse("UP 9", x, 0, 24, 11, 1, 12, 1, 14, 1, 17, 1, 21, 1);
        x.make(0, 2, 1);
        due("STRETCHED 1", x.change(0, STRETCHED, 1), 24);
        terms("STRETCHED 1", x, 0, 24, 1, 1, 0, 1, 0, 0, 1);
        due("STRETCHED 3", x.change(0, STRETCHED, 3), 24);
        sparse("STRETCHED 3", x, 0, 24, 0, 1, 3, 1, 9, 1, 18, 1);
        due("STRETCHED 8", x.change(0, STRETCHED, 8), 24);
        sparse("STRETCHED 8", x, 0, 24, 0, 1);
        x.make(0, 1, 1);
        due("TURNED", x.change(0, TURNED, 0), 24);
        sparse("TURNED", x, 0, 24, 0, 1, 1, -2, 4, 2, 9, -2, 16, 2);
        x.make(0, 3, 1);
        due("PART 5, 2", x.change(0, PART, 52), 5);
        terms("PART 5, 2", x, 0, 5, -1, 1, -1, 0, 1);
        due("PART 1, 0", x.change(0, PART, 10), 5);
        terms("PART 1, 0", x, 0, 5, -1, 1, -1, 0, 1);
        due("PART 8, 4: the last", x.change(0, PART, 84), 1);
        terms("PART 8, 4", x, 0, 1, 1);
        due("PART 8, 1: none", x.change(0, PART, 81), NOT);
        terms("refused", x, 0, 1, 1);
        x.make(0, 1, 1);
        due("CUT to all", x.change(0, CUT, 24), 24);
        due("CUT", x.change(0, CUT, 5), 5);
        terms("CUT", x, 0, 5, 1, 2, 0, 0, 2);
        due("CUT to 1", x.change(0, CUT, 1), 1);
        due("UP of one term", x.change(0, UP, 1), 1);
        terms("UP of one term", x, 0, 1, 0);
        x.make(0, 1, 1);
        x.change(0, CUT, 9);
        due("POWER 1", x.change(0, POWER, 1), 9);
        terms("POWER 1", x, 0, 9, 1, 2, 0, 0, 2, 0, 0, 0, 0);
        due("POWER 4", x.change(0, POWER, 4), 9);
        terms("four squares", x, 0, 9, 1, 8, 24, 32, 24, 48, 96, 64, 24);
        due("POWER 0", x.change(0, POWER, 0), 9);
        terms("POWER 0", x, 0, 9, 1, 0, 0, 0, 0, 0, 0, 0, 0);
        due("FOLD 99", x.change(0, FOLD, 99), 9);
        due("FOLD -99", x.change(0, FOLD, -99), 9);
        terms("FOLD", x, 0, 9, -9801, 0);
        due("FOLD 0", x.change(0, FOLD, 0), 9);
        terms("FOLD 0", x, 0, 9, 0, 0);
    }

    private static void promise4ChangeRefused() {
        EtaSeries x = new EtaSeries();
        x.make(0, 1, 1);
        int[][] bad = {{-1, UP, 0}, {4, UP, 0}, {0, -1, 0}, {0, 7, 0}, {0, UP, -1}, {0, UP, 10}, {0, STRETCHED, 0},
            {0, STRETCHED, 9}, {0, TURNED, 1}, {0, TURNED, -1}, {0, PART, 0}, {0, PART, 9}, {0, PART, 11},
            {0, PART, 22}, {0, PART, 88}, {0, PART, 90}, {0, PART, -10}, {0, PART, LOW}, {0, CUT, 0}, {0, CUT, 25},
            {0, CUT, HIGH}, {0, CUT, -1}, {0, POWER, -1}, {0, POWER, 9}, {0, FOLD, 100}, {0, FOLD, -100},
            {1, UP, 10}, {1, CUT, 0}, {1, PART, 11}, {1, 7, 0}};
        for (int[] b : bad) {
            due("change " + b[0] + " " + b[1] + " " + b[2], x.change(b[0], b[1], b[2]), BAD);
        }
        for (int act = 0; act <= 6; act++) {
            due("none", x.change(1, act, act == PART ? 10 : act == STRETCHED || act == CUT ? 1 : 0), NULL);
        }
        due("more than a missing one has", x.change(1, CUT, 25), NULL);
        due("more than any has", x.change(1, CUT, HIGH), NULL);
        due("undone", x.count(8), 1);
        work(x, 1, "99^4");
        due("FOLD too great", x.change(1, FOLD, 2), WIDE);
        due("FOLD too great below 0", x.change(1, FOLD, -2), WIDE);
        due("POWER too great", x.change(1, POWER, 2), WIDE);
        due("POWER 1 is not", x.change(1, POWER, 1), 24);
        due("POWER 0 is not", x.change(1, POWER, 0), 24);
        terms("then ONE", x, 1, 24, 1, 0);
        work(x, 2, "99^2*99*q(23)+99^2*99*q(1)");
        due("what falls off counts for nothing", x.change(2, POWER, 8), WIDE);
        x.change(2, CUT, 2);
        due("nothing left behind the end", x.change(2, POWER, 8), 2);
        terms("nothing left", x, 2, 2, 0, 0);
    }

    private static void promise5Out() {
        EtaSeries x = new EtaSeries();
        due("none", x.out(0), NULL);
        due("below", x.out(-1), BAD);
        due("above", x.out(4), BAD);
        x.make(3, 1, 1);
        x.change(3, CUT, 7);
        due("out", x.out(3), 7);
        due("gone", x.count(5), 0);
        due("again", x.out(3), NULL);
        due("undo", x.undo(), 2);
        due("there", x.count(5), 7);
    }

    private static void promise6Length() {
        EtaSeries x = new EtaSeries();
        int[] bad = {3, 41, 0, -1, LOW, HIGH};
        for (int v : bad) {
            due("length " + v, x.length(v), BAD);
        }
        due("it is so", x.length(24), NOT);
        x.make(0, 1, 1);
        due("4", x.length(4), 24);
        due("40", x.length(40), 4);
        due("it is so", x.length(40), NOT);
        due("count", x.count(0), 40);
        due("series stay", x.count(2), 24);
        due("new ones are as long", x.make(1, 0, 0), 40);
        due("texts too", work(x, 2, "1"), 40);
        due("undone", x.count(8), 5);
    }

    private static void promise7Type() {
        EtaSeries x = new EtaSeries();
        due("31", x.type(31), BAD);
        due("127", x.type(127), BAD);
        due("-1", x.type(-1), BAD);
        due("a letter and 65536", x.type('1' + 65536), BAD);
        due("32", x.type(32), 1);
        due("126", x.type(126), 2);
        for (int k = 3; k <= 60; k++) {
            due("letter " + k, x.type('1'), k);
        }
        due("full", x.type('1'), FULL);
        due("BAD ahead of FULL", x.type(31), BAD);
        due("the second can't stand", x.work(0), FAULT - 1);
        due("empty then", x.type('1'), 1);
        due("nothing to undo", x.count(8), 0);
    }

    private static void promise8Texts() {
        terms("number", working(0, "42"), 0, 24, 42, 0);
        terms("leading 0", working(0, "07"), 0, 24, 7, 0);
        terms("0", working(0, "0"), 0, 24, 0, 0);
        terms("e", working(1, "e(1)"), 1, 24, 1, -1, -1, 0, 0, 1);
        terms("t", working(2, "t(2)"), 2, 24, 1, 0, 2, 0, 0, 0);
        terms("s", working(3, "s(1)"), 3, 24, 1, 1, 0, 1, 0, 0);
        terms("q", working(0, "q(03)"), 0, 24, 0, 0, 0, 1, 0);
        terms("q 0", working(0, "q(0)"), 0, 24, 1, 0);
        terms("from the left", working(0, "9-3-2"), 0, 24, 4, 0);
        terms("products ahead of sums", working(0, "1+2*3-4*5+6"), 0, 24, -7, 0);
        terms("powers ahead of products", working(0, "2*3^2*4"), 0, 24, 72, 0);
        terms("quotients from the left", working(0, "6/(1-q(1))*(1-q(1))"), 0, 24, 6, 0, 0);
        terms("brackets", working(0, "2*(3+4)^2-(1-(2-3))"), 0, 24, 96, 0);
        terms("to the 0", working(0, "(1+q(1))^0"), 0, 24, 1, 0);
        terms("to the 3", working(0, "(1+q(1))^3"), 0, 24, 1, 3, 3, 1, 0);
        terms("blanks", working(0, "  ( 1 + q ( 2 ) ) ^ 2 / ( 1 + q ( 02 ) ) "), 0, 24, 1, 0, 1, 0);
        terms("partitions", working(0, "1/e(1)"), 0, 24, 1, 1, 2, 3, 5, 7, 11, 15, 22, 30);
        terms("six brackets", working(0, "((((((5))))))"), 0, 24, 5, 0);
        terms("six by six", working(0, "((((((5))))))*((((((t(1)))))))"), 0, 24, 5, 10, 0, 0, 10);
        terms("60 letters", working(0, "1+1+1+1+1+1+1+1+1+1+1+1+1+1+1+1+1+1+1+1+1+1+1+1+1+1+1+1+1+01"), 0, 24, 30, 0);
        terms("each depth", working(0, "1-(2-(3-(4-(5-(6-(7-9)*2)*2)*2)*2)*2)*2"), 0, 24, -263);
    }

    private static void fault(String text, int place) {
        EtaSeries x = new EtaSeries();
        due("FAULT of '" + text + "'", work(x, 0, text), FAULT - place);
        due("no series of '" + text + "'", x.count(1), 0);
        due("empty then", x.type(' '), 1);
        due("nothing to undo", x.count(8), 0);
    }

    private static void promise8Faults() {
        fault("", 0);
        fault("   ", 3);
        fault("-1", 0);
        fault("+1", 0);
        fault("  x", 2);
        fault("E(1)", 0);
        fault("^2", 0);
        fault(")", 0);
        fault("()", 1);
        fault("100", 2);
        fault("1 2", 2);
        fault("12 3", 3);
        fault("1+", 2);
        fault("1+  ", 4);
        fault("1+*2", 2);
        fault("1//2", 2);
        fault("1)", 1);
        fault("(1", 2);
        fault("(1  ", 4);
        fault("((1)", 4);
        fault("(1))", 3);
        fault("1(2)", 1);
        fault("1e(1)", 1);
        fault("(1)(2)", 3);
        fault("1^", 2);
        fault("1^ ", 3);
        fault("1^9", 2);
        fault("1^ 9", 3);
        fault("1^10", 3);
        fault("1^2^3", 3);
        fault("1^(2)", 2);
        fault("1^-1", 2);
        fault("e", 1);
        fault("e ", 2);
        fault("e1", 1);
        fault("e(", 2);
        fault("e( ", 3);
        fault("e()", 2);
        fault("e(t(1))", 2);
        fault("e(1", 3);
        fault("e(1 ", 4);
        fault("e(1+1)", 3);
        fault("e(1 2)", 4);
        fault("e(0)", 2);
        fault("t( 10)", 3);
        fault("s(99)", 2);
        fault("e(00)", 2);
        fault("q(40)", 2);
        fault("q(400)", 2);
        fault("q(390)", 4);
        fault("e(012)", 4);
        fault("e(100)", 2);
        fault("e(0 1)", 2);
        fault("e(0", 2);
        fault("e(0x", 2);
        fault("(((((((1)))))))", 6);
        fault("(((((( ( 1", 7);
        fault("((((((1))))))+(((((((1)))))))", 20);
        fault("99^8*99^8+", 10);
        terms("brackets of e t s q don't count", working(0, "((((((e(1)))))))"), 0, 24, 1, -1, -1, 0);
    }

    private static void breaks(String text, int refusal, int brackets, char letter) {
        EtaSeries x = working(0, "7");
        due(text, work(x, 0, text), refusal);
        due(text + ": brackets", x.count(6), brackets);
        due(text + ": letter", x.count(7), letter);
        terms(text + " changes nothing", x, 0, 24, 7, 0);
        due(text + ": undone", x.count(8), 1);
        due(text + ": empty then", x.type('1'), 1);
        due(text + ": why stays", x.count(6), brackets);
        due("worked out", x.work(1), 24);
        due("why is none", x.count(6), NONE);
        due("why is none", x.count(7), NONE);
    }

    private static void promise8Why() {
        breaks("99^8", WIDE, 0, '^');
        breaks("(99)^5", WIDE, 0, '^');
        breaks("(99^5)", WIDE, 1, '^');
        breaks("99^4*2", WIDE, 0, '*');
        breaks("99^4+99^4", WIDE, 0, '+');
        breaks("0-99^4-99^4", WIDE, 0, '-');
        breaks("1/2", ROOT, 0, '/');
        breaks("1/0", ROOT, 0, '/');
        breaks("1/(1-1)", ROOT, 0, '/');
        breaks("1+(2*(3-(1/(q(1)))))", ROOT, 3, '/');
        breaks("((((((1/2))))))", ROOT, 6, '/');
        breaks("99^4/(1+99*q(1))", WIDE, 0, '/');
        breaks("99^5/2", WIDE, 0, '^');
        breaks("1/2*99^5", ROOT, 0, '/');
        breaks("1/2^0/99^5", WIDE, 0, '^');
        breaks("(1/2)+99^5", ROOT, 1, '/');
        breaks("99^4+99^4+(99^5)", WIDE, 0, '+');
        breaks("99^4*2*(99^5)", WIDE, 0, '*');
        breaks("1*(99^5)+1/2", WIDE, 1, '^');
        breaks("99^4*99*(1/2)", WIDE, 0, '*');
        EtaSeries x = new EtaSeries();
        work(x, 0, "(1/2)");
        due("a FAULT is not worked out: why stays", work(x, 0, "1+"), FAULT - 2);
        due("brackets", x.count(6), 1);
        due("letter", x.count(7), '/');
        x.image();
        work(x, 0, "99^8");
        x.restore();
        due("why is in no image", x.count(7), '^');
        x.make(0, 0, 0);
        x.undo();
        due("nor undone", x.count(7), '^');
    }

    private static void promise8Tape() {
        EtaSeries x = new EtaSeries();
        x.type('1');
        due("BAD", x.work(4), BAD);
        due("BAD", x.work(-1), BAD);
        due("THE TAPE stays", x.type('2'), 2);
        due("worked out", x.work(3), 24);
        terms("12", x, 3, 24, 12, 0);
        due("undone", x.count(8), 1);
        due("empty", x.work(3), FAULT);
        work(x, 0, "((((");
        due("no brackets are left open", work(x, 0, "(((1)))"), 24);
        due("nor letters", work(x, 0, "t(1"), FAULT - 3);
        x.undo();
        x.type('5');
        x.undo();
        due("undo leaves THE TAPE", x.type('6'), 2);
        x.image();
        x.type('+');
        x.restore();
        due("so does an image", x.type('1'), 4);
        x.work(0);
        terms("57", x, 0, 24, 57, 0);
    }

    private static void promise9Drift() {
        EtaSeries x = new EtaSeries();
        due("0", x.drift(0), BAD);
        due("41", x.drift(41), BAD);
        due("-1", x.drift(-1), BAD);
        // 1103527590, x 16838: series 2, THETA, of 9
        due("1", x.drift(1), 4);
        sparse("THETA 9", x, 2, 24, 0, 1, 9, 2);
        due("draw", x.seed(1103527590), 1103527590);
        // 377401575, x 5758: series 2, EULER, of 9
        due("2", x.drift(1), 4);
        sparse("EULER 9", x, 2, 24, 0, 1, 9, -1, 18, -1);
        due("draw", x.seed(377401575), 377401575);
        // 662824084, x 10113: series 1, EULER, of 3
        due("3", x.drift(1), 6);
        sparse("EULER 3", x, 1, 24, 0, 1, 3, -1, 6, -1, 15, 1, 21, 1);
        due("draw", x.seed(662824084), 662824084);
        // 1147902781, x 17515: series 3, PSI, of 6
        due("4", x.drift(1), 14);
        sparse("PSI", x, 3, 24, 0, 1, 6, 1, 18, 1);
        due("each may be undone", x.count(8), 4);
        EtaSeries y = new EtaSeries();
        due("together", y.drift(3), 6);
        due("each may be undone", y.count(8), 3);
        due("40", y.drift(40), 15);
        due("six are known", y.count(8), 6);
        EtaSeries z = new EtaSeries();
        z.length(10);
        z.drift(1);
        sparse("of THE LENGTH", z, 2, 10, 0, 1, 9, 2);
        z.seed(HIGH);
        z.drift(1);
        due("31 bits", z.seed(0), (int) ((HIGH * 1103515245L + 12345L) & HIGH));
    }

    private static void promise10Undo() {
        EtaSeries x = new EtaSeries();
        due("none", x.undo(), NONE);
        for (int d = 1; d <= 7; d++) {
            x.make(0, 1, d);
        }
        due("six are known", x.count(8), 6);
        for (int d = 6; d >= 1; d--) {
            due("undo", x.undo(), d - 1);
            due("THETA " + d, x.term(0, d), 2);
            due("and no other", x.term(0, d + 1), 0);
        }
        due("none", x.undo(), NONE);
        EtaSeries y = new EtaSeries();
        y.make(0, 1, 1);
        y.seed(9);
        due("THE DRAW too, whatever was told since", y.undo(), 0);
        due("draw", y.seed(2), 1);
        due("a seed is not undone", y.undo(), NONE);
        y.drift(2);
        due("one turn", y.undo(), 1);
        due("draw ahead of it", y.seed(3), (int) ((2 * 1103515245L + 12345L) & HIGH));
        due("the other", y.undo(), 0);
        due("draw ahead of both", y.seed(3), 2);
        due("no series", y.count(1), 0);
    }

    private static void promise10UndoEach() {
        EtaSeries x = new EtaSeries();
        x.make(0, 1, 1);
        x.length(30);
        due("length", x.undo(), 1);
        due("length", x.count(0), 24);
        x.join(1, PLUS, 0, 0);
        due("joined", x.undo(), 1);
        due("joined", x.count(3), 0);
        x.change(0, CUT, 3);
        due("changed", x.undo(), 1);
        terms("changed", x, 0, 24, 1, 2, 0, 0, 2);
        x.change(0, UP, 0);
        due("one that changes nothing", x.undo(), 1);
        x.out(0);
        due("out", x.undo(), 1);
        terms("out", x, 0, 24, 1, 2, 0, 0, 2);
        work(x, 0, "5");
        due("text", x.undo(), 1);
        terms("text", x, 0, 24, 1, 2, 0, 0, 2);
        row(x, 0, 0, 1, 2);
        x.quotient(0, 0, 0, 0, 1);
        due("quotient", x.undo(), 1);
        terms("quotient", x, 0, 24, 1, 2, 0, 0, 2);
        due("sheets stay", x.drop(0), 2);
        due("make", x.undo(), 0);
        due("make", x.count(1), 0);
    }

    private static void promise11Seed() {
        EtaSeries x = new EtaSeries();
        due("below 0", x.seed(-1), BAD);
        due("lowest", x.seed(LOW), BAD);
        due("1 at first", x.seed(0), 1);
        due("0", x.seed(HIGH), 0);
        due("highest", x.seed(7), HIGH);
        due("nothing to undo", x.count(8), 0);
    }

    private static void promise12Term() {
        EtaSeries x = new EtaSeries();
        due("none", x.term(0, 0), NULL);
        due("none, far", x.term(0, 40), NULL);
        due("none, farthest", x.term(0, HIGH), NULL);
        due("none, below", x.term(0, -1), BAD);
        x.make(0, 3, 1);
        due("term", x.term(0, 1), -1);
        due("last", x.term(0, 23), 0);
        due("behind", x.term(0, 24), BAD);
        due("far", x.term(0, HIGH), BAD);
        due("below", x.term(0, -1), BAD);
        due("lowest", x.term(0, LOW), BAD);
        due("no such", x.term(4, 0), BAD);
        due("no such", x.term(-1, 0), BAD);
        x.change(0, CUT, 2);
        due("cut", x.term(0, 2), BAD);
    }

    private static void promise13Count() {
        EtaSeries x = new EtaSeries();
        due("below", x.count(-1), BAD);
        due("above", x.count(9), BAD);
        x.length(11);
        x.make(0, 0, 0);
        x.change(0, CUT, 1);
        due("one of one term", x.count(1), 1);
        x.undo();
        x.length(12);
        x.make(2, 0, 0);
        x.length(13);
        x.make(3, 0, 0);
        int[] want = {13, 13, 11, 0, 12, 13, NONE, NONE, 6};
        for (int k = 0; k < want.length; k++) {
            due("count " + k, x.count(k), want[k]);
        }
        work(x, 0, "(1/2)");
        due("brackets", x.count(6), 1);
        due("letter", x.count(7), '/');
    }

    private static void promise14First() {
        EtaSeries x = new EtaSeries();
        due("none", x.first(0, 1), NULL);
        due("BAD", x.first(-1, 0), BAD);
        due("BAD", x.first(0, 4), BAD);
        x.make(0, 1, 1);
        due("no second", x.first(0, 1), NULL);
        due("no first", x.first(1, 0), NULL);
        due("itself", x.first(0, 0), NONE);
        x.make(1, 4, 0);
        due("at 1", x.first(0, 1), 1);
        x.make(1, 4, 1);
        due("at 0", x.first(0, 1), 0);
        work(x, 1, "t(1)+q(23)");
        due("at the last", x.first(0, 1), 23);
        x.change(1, CUT, 23);
        due("of those that both have", x.first(0, 1), NONE);
        due("the shorter first", x.first(1, 0), NONE);
        due("nothing changed", x.count(8), 5);
    }

    private static void promise15Fits() {
        EtaSeries x = new EtaSeries();
        int[][] bad = {{-1, 1, 0, 2, 0}, {4, 1, 0, 2, 0}, {0, 0, 0, 2, 0}, {0, 9, 0, 2, 0}, {0, 1, 1, 2, 0},
            {0, 1, -1, 2, 0}, {0, 8, 8, 2, 0}, {0, 1, 0, 1, 0}, {0, 1, 0, 0, 0}, {0, 1, 0, 10, 0}, {0, 1, 0, 2, -1},
            {0, 1, 0, 2, 2}};
        for (int[] b : bad) {
            due("BAD", x.fits(b[0], b[1], b[2], b[3], b[4]), BAD);
        }
        due("none", x.fits(0, 1, 0, 2, 0), NULL);
        work(x, 0, "1/e(1)");
        due("p(5 n + 4) by 5", x.fits(0, 5, 4, 5, 0), 1);
        due("p(5 n + 4) by 5", x.fits(0, 5, 4, 5, 1), NONE);
        due("p(7 n + 5) by 7", x.fits(0, 7, 5, 7, 0), 1);
        due("p(5 n + 3) by 3", x.fits(0, 5, 3, 3, 0), 0);
        due("p(8) is 22", x.fits(0, 5, 3, 3, 1), 8);
        due("p(4) is 5", x.fits(0, 5, 4, 2, 1), 4);
        due("all by 2", x.fits(0, 1, 0, 2, 1), 0);
        x.change(0, FOLD, -9);
        due("below 0", x.fits(0, 1, 0, 9, 0), 1);
        due("below 0", x.fits(0, 1, 0, 8, 1), 0);
        x.change(0, CUT, 3);
        due("no such terms", x.fits(0, 8, 3, 2, 0), 1);
        due("no such terms", x.fits(0, 8, 3, 2, 1), NONE);
    }

    private static void promise16Found() {
        EtaSeries x = new EtaSeries();
        int[][] bad = {{-1, 1, 0}, {4, 1, 0}, {0, 0, 0}, {0, 9, 0}, {0, 1, 1}, {0, 3, -1}, {0, 8, 8}};
        for (int[] b : bad) {
            due("BAD", x.found(b[0], b[1], b[2]), BAD);
        }
        due("none", x.found(0, 1, 0), NULL);
        x.length(40);
        work(x, 0, "1/e(1)");
        due("Ramanujan", x.found(0, 1, 0), 5405);
        due("r too", x.found(0, 5, 4), 5405);
        due("further on", x.found(0, 6, 0), 7507);
        due("no more", x.found(0, 7, 6), NONE);
        work(x, 0, "6*t(1)");
        due("the least M", x.found(0, 1, 0), 1002);
        due("m rises, r from 0 on", x.found(0, 2, 1), 2102);
        x.make(0, 4, 5);
        due("m then r", x.found(0, 1, 0), 2002);
        x.change(0, CUT, 10);
        due("three at least", x.found(0, 4, 2), NONE);
        due("three at least", x.found(0, 4, 0), 4002);
        x.make(0, 0, 0);
        due("r is less than m", x.found(0, 1, 0), 2102);
        x.make(0, 4, 23);
        due("m of 8", x.found(0, 8, 6), 8602);
        due("the last m and r", x.found(0, 8, 7), NONE);
        x.change(0, FOLD, 7);
        due("the last m and r", x.found(0, 8, 7), 8707);
        x.make(0, 4, 5);
        x.change(0, CUT, 10);
        x.change(0, FOLD, 0);
        x.change(0, CUT, 3);
        due("just three", x.found(0, 1, 0), 1002);
        due("just two", x.found(0, 2, 0), NONE);
        x.change(0, CUT, 2);
        due("two", x.found(0, 1, 0), NONE);
    }

    private static void promise17Guess() {
        EtaSeries x = new EtaSeries();
        int[][] bad = {{-1, 0, 0, 0}, {4, 0, 0, 0}, {0, -1, 0, 0}, {0, 7, 0, 0}, {0, 0, -1, 0}, {0, 0, 11, 0},
            {0, 0, 0, -1}, {0, 0, 0, 2}};
        for (int[] b : bad) {
            due("BAD", x.guess(b[0], b[1], b[2], b[3]), BAD);
        }
        due("none", x.guess(0, 6, 0, 0), NULL);
        x.make(0, 3, 1);
        // odd, odd, odd, even, even, odd
        int[][] want = {{0, 3, 1, 1}, {1, 3, 3, 10}, {2, 3, 9, 100}, {4, 3, 189, 10000}, {6, 3, 3969, 1000000},
            {6, 5, 1, 64}, {4, 4, 24, 625}, {6, 2, 16, 15625}, {6, 0, 0, 1}, {6, 10, 0, 1}, {3, 10, 1, 1},
            {3, 0, 0, 1}};
        for (int[] w : want) {
            due("guess " + w[0] + " " + w[1], x.guess(0, w[0], w[1], 0), w[2]);
            due("guess " + w[0] + " " + w[1] + " below", x.guess(0, w[0], w[1], 1), w[3]);
        }
        x.change(0, CUT, 5);
        due("not so many", x.guess(0, 6, 1, 0), BAD);
        due("so many", x.guess(0, 5, 10, 0), 0);
        due("nothing changed", x.count(8), 2);
    }

    private static void promise18Image() {
        EtaSeries x = new EtaSeries();
        due("of nothing", x.image(), 1);
        x.make(0, 1, 1);
        x.length(9);
        x.seed(5);
        due("back", x.restore(), 1);
        due("series", x.count(1), 0);
        due("length", x.count(0), 24);
        due("undone", x.count(8), 0);
        due("draw", x.seed(5), 1);
        x.make(0, 1, 1);
        due("another one", x.image(), 1);
        due("nothing to undo", x.count(8), 1);
        x.make(0, 1, 2);
        x.restore();
        due("the latest", x.term(0, 1), 2);
        due("draw", x.seed(1), 5);
    }

    private static void promise19Restore() {
        EtaSeries x = new EtaSeries();
        due("none", x.restore(), NONE);
        for (int d = 1; d <= 8; d++) {
            x.make(0, 1, d);
        }
        x.image();
        x.drift(9);
        row(x, 0, 3, 1, 2, 3);
        due("restore", x.restore(), 1);
        due("THETA 8", x.term(0, 8), 2);
        due("undone", x.count(8), 6);
        for (int d = 7; d >= 2; d--) {
            due("undo", x.undo(), d - 2);
            due("THETA " + d, x.term(0, d), 2);
        }
        due("as often as told", x.restore(), 1);
        due("undone", x.count(8), 6);
        due("THETA 8", x.term(0, 8), 2);
        due("undo", x.undo(), 5);
        due("sheets stay", x.drop(0), 3);
    }

    private static void quotientIs(int weight, int level, int bound, long... items) {
        EtaSeries x = new EtaSeries();
        row(x, 1, 3, items);
        int n = items.length / 2;
        due("weight", x.told(1, 3, 0, n, 0), weight);
        due("level", x.told(1, 3, 0, n, 1), level);
        due("bound", x.told(1, 3, 0, n, 2), bound);
    }

    private static void promise20Told() {
        quotientIs(24, 1, 2, 1, 9, 1, 9, 1, 6);
        quotientIs(4, 11, 3, 1, 2, 11, 2);
        quotientIs(4, 24, 9, 2, 1, 4, 1, 6, 1, 12, 1);
        quotientIs(4, 24, 9, 2, 1, 4, 1, 6, 1, 7, 0, 12, 1);
        quotientIs(0, 1, 1, 12, 0);
        quotientIs(-1, NONE, NONE, 1, -1);
        quotientIs(-24, 1, NONE, 1, -9, 1, -9, 1, -6);
        quotientIs(0, NONE, NONE, 1, 8, 2, -8);
        quotientIs(0, 2, 1, 1, 8, 1, 8, 1, 8, 2, -8, 2, -8, 2, -8);
        quotientIs(2, NONE, NONE, 1, 1, 1, 1);
        quotientIs(1, 4, 1, 2, 5, 1, -2, 4, -2);
        quotientIs(2, 144, 25, 12, 2);
        quotientIs(11, 576, 529, 8, 3, 3, 8);
        // 24 divides 11 and 10 and 3 together, but of 330 and 660 only 660 would do
        quotientIs(3, NONE, NONE, 11, 1, 10, 1, 3, 1);
        quotientIs(54, 16, 55, 4, 9, 4, 9, 4, 9, 4, 9, 4, 9, 4, 9);
        quotientIs(4, 36, 13, 6, 4);
        quotientIs(0, 5, 1, 5, 9, 5, -9);
        EtaSeries x = new EtaSeries();
        row(x, 0, 1, 99, 99, 99, 1, 8, 2, 8);
        due("from item 3 on", x.told(0, 1, 3, 2, 1), 2);
        due("from item 5 on", x.told(0, 1, 5, 1, 0), 8);
        row(x, 0, 1, 1, 2, 11, 2, 7, 3);
        due("n pairs alone", x.told(0, 1, 0, 2, 0), 4);
        due("n pairs alone", x.told(0, 1, 0, 2, 1), 11);
        due("n pairs alone", x.told(0, 1, 0, 2, 2), 3);
        x.quotient(0, 0, 1, 0, 2);
        terms("n pairs alone", x, 0, 24, 1, -2, -1, 2, 1, 2, -2, 0, -2, -2, 1);
    }

    private static void promise20ToldRefused() {
        EtaSeries x = new EtaSeries();
        int[][] bad = {{-1, 0, 0, 1, 0}, {4, 0, 0, 1, 0}, {0, -1, 0, 1, 0}, {0, 4, 0, 1, 0}, {0, 0, 0, 0, 0},
            {0, 0, 0, 7, 0}, {0, 0, 0, 1, -1}, {0, 0, 0, 1, 3}};
        for (int[] b : bad) {
            due("BAD", x.told(b[0], b[1], b[2], b[3], b[4]), BAD);
        }
        due("none", x.told(0, 0, -1, 1, 0), NULL);
        row(x, 0, 2, 1, 2, 3, 4);
        due("another lane", x.told(0, 1, -1, 1, 0), CAST);
        due("below", x.told(0, 2, -1, 1, 0), INDEX);
        due("lowest", x.told(0, 2, LOW, 1, 0), INDEX);
        due("highest", x.told(0, 2, HIGH, 6, 0), INDEX);
        due("behind", x.told(0, 2, 3, 1, 0), INDEX);
        due("more", x.told(0, 2, 1, 2, 0), INDEX);
        due("last", x.told(0, 2, 2, 1, 0), 4);
        long[][] wrong = {{0, 1}, {13, 1}, {-1, 1}, {1, 10}, {1, -10}, {1L << 32 | 1, 1}, {1, 1L << 32}};
        for (long[] w : wrong) {
            row(x, 1, 3, 1, 1, w[0], w[1]);
            for (int what = 0; what < 3; what++) {
                due("no such d, e", x.told(1, 3, 0, 2, what), NOT);
            }
            due("not asked for", x.told(1, 3, 0, 1, 0), 1);
            due("INDEX ahead of NOT", x.told(1, 3, 0, 3, 0), INDEX);
        }
        row(x, 1, 0, 12, -9);
        due("the outermost", x.told(1, 0, 0, 1, 0), -9);
        row(x, 1, 0, 12, 9);
        due("the outermost", x.told(1, 0, 0, 1, 0), 9);
    }

    private static void promise21Quotient() {
        EtaSeries x = new EtaSeries();
        row(x, 0, 2, 1, 9, 1, 9, 1, 6);
        due("tau", x.quotient(0, 0, 2, 0, 3), 24);
        terms("tau", x, 0, 24, 1, -24, 252, -1472, 4830, -6048, -16744, 84480, -113643, -115920, 534612);
        row(x, 0, 2, 0, 2, 5, 1, -2, 4, -2, 12, 0);
        due("theta", x.quotient(1, 0, 2, 1, 4), 24);
        x.make(2, 1, 1);
        due("theta", x.first(1, 2), NONE);
        x.length(30);
        row(x, 0, 0, 12, 1);
        due("EULER 12", x.quotient(1, 0, 0, 0, 1), 30);
        sparse("EULER 12", x, 1, 30, 0, 1, 12, -1, 24, -1);
        row(x, 0, 0, 3, 0);
        due("ONE", x.quotient(1, 0, 0, 0, 1), 30);
        sparse("ONE", x, 1, 30, 0, 1);
        int undone = x.count(8);
        int[][] bad = {{-1, 0, 0, 0, 1}, {4, 0, 0, 0, 1}, {0, -1, 0, 0, 1}, {0, 4, 0, 0, 1}, {0, 0, -1, 0, 1},
            {0, 0, 4, 0, 1}, {0, 0, 0, 0, 0}, {0, 0, 0, 0, 7}};
        for (int[] b : bad) {
            due("BAD", x.quotient(b[0], b[1], b[2], b[3], b[4]), BAD);
        }
        due("none", x.quotient(0, 3, 0, 0, 1), NULL);
        due("another lane", x.quotient(0, 0, 1, 9, 1), CAST);
        due("index", x.quotient(0, 0, 0, 1, 1), INDEX);
        due("below", x.quotient(0, 0, 0, -1, 1), INDEX);
        x.item(0, 0, 0, 13);
        due("no such d", x.quotient(0, 0, 0, 0, 1), NOT);
        row(x, 0, 0, 1, -9, 1, -9, 1, -9, 1, -9, 1, 9, 1, 9);
        due("too great on the way", x.quotient(0, 0, 0, 0, 6), WIDE);
        due("no why of that", x.count(6), NONE);
        due("nothing to undo", x.count(8), undone);
        x.length(4);
        due("fewer terms", x.quotient(3, 0, 0, 0, 6), 4);
        terms("18 less", x, 3, 4, 1, 18, 189, 1482);
    }

    private static void promise22Wrought() {
        EtaSeries x = new EtaSeries();
        int[][] bad = {{-1, 0, 0, 0, 0, 1}, {4, 0, 0, 0, 0, 1}, {0, -1, 0, 0, 0, 1}, {0, 4, 0, 0, 0, 1},
            {0, 0, -1, 0, 0, 1}, {0, 0, 4, 0, 0, 1}, {0, 0, 0, -1, 0, 1}, {0, 0, 0, 4, 0, 1}, {0, 0, 0, 0, 0, 0},
            {0, 0, 0, 0, 0, 13}};
        for (int[] b : bad) {
            due("BAD", x.wrought(b[0], b[1], b[2], b[3], b[4], b[5]), BAD);
        }
        due("no sheet", x.wrought(0, 1, 0, 0, 0, 1), NULL);
        row(x, 0, 2, 0, 0, 0);
        due("another lane", x.wrought(0, 1, 0, 0, 9, 1), CAST);
        due("index", x.wrought(0, 1, 0, 2, 1, 3), INDEX);
        due("below", x.wrought(0, 1, 0, 2, -1, 1), INDEX);
        due("no series", x.wrought(0, 1, 0, 2, 0, 1), NOT);
        x.make(0, 1, 1);
        due("no second", x.wrought(0, 1, 0, 2, 0, 1), NOT);
        due("no first", x.wrought(1, 0, 0, 2, 0, 1), NOT);
        due("LESS", x.wrought(0, 0, 0, 2, 0, 3), 1 << LESS);
        row(x, 1, 2, 7, 2, 4, 0, 0, 4);
        due("PLUS", x.wrought(0, 0, 1, 2, 1, 5), 1 << PLUS);
        row(x, 1, 2, 1, 0, 0, 0);
        due("OVER", x.wrought(0, 0, 1, 2, 0, 4), 1 << OVER);
        due("TIMES and OVER", x.wrought(0, 0, 1, 2, 0, 1), 1 << TIMES | 1 << OVER);
        row(x, 1, 2, 1, 4, 4, 1);
        due("TIMES", x.wrought(0, 0, 1, 2, 0, 3), 1 << TIMES);
        due("none", x.wrought(0, 0, 1, 2, 0, 4), 0);
        x.make(1, 4, 0);
        row(x, 1, 2, 1, 2, 0, 0, 2, 0, 0, 0, 0, 2, 0, 0, 5);
        due("12", x.wrought(0, 1, 1, 2, 0, 12), 1 << TIMES | 1 << OVER);
        due("12 others", x.wrought(0, 1, 1, 2, 1, 12), 0);
        x.change(1, CUT, 3);
        row(x, 1, 0, 1, 2, 0, 0, 2);
        due("it has so many", x.wrought(0, 1, 1, 0, 0, 3), 1 << TIMES | 1 << OVER);
        due("it has not so many", x.wrought(0, 1, 1, 0, 0, 4), 0);
        row(x, 1, 3, 1L << 32 | 2);
        due("all bits count", x.wrought(0, 0, 1, 3, 0, 1), 0);
        x.make(1, 4, 1);
        row(x, 1, 3, 0, 0);
        due("ROOT is no act", x.wrought(1, 1, 1, 3, 0, 2), 1 << LESS | 1 << TIMES);
        work(x, 2, "q(20)*99^4");
        due("WIDE is no act", x.wrought(2, 2, 1, 3, 0, 2), 1 << LESS | 1 << TIMES);
    }

    /** Items of a sheet from i on, one by one: what PLUS makes of so many times ONE and of Q 1 begins so. */
    private static void holds(EtaSeries x, int sheet, int lane, int i, int... want) {
        for (int k = 0; k < want.length; k++) {
            x.make(3, 0, 0);
            x.change(3, FOLD, want[k]);
            x.make(2, 4, 1);
            due("item " + (i + k), x.wrought(3, 2, sheet, lane, i + k, 1) & 1, 1);
        }
    }

    private static void promise23Film() {
        EtaSeries x = new EtaSeries();
        due("BAD", x.film(-1, 0, 0, 0), BAD);
        due("BAD", x.film(4, 0, 0, 0), BAD);
        due("BAD", x.film(0, -1, 0, 0), BAD);
        due("BAD", x.film(0, 4, 0, 0), BAD);
        due("BAD", x.film(0, 0, -1, 0), BAD);
        due("BAD", x.film(0, 0, 4, 0), BAD);
        due("NOT ahead of NULL", x.film(0, 0, 0, 0), NOT);
        work(x, 0, "99*q(1)+3*99*q(2)-99*99*q(3)+99^4*q(4)+1");
        x.change(0, CUT, 5);
        due("no sheet", x.film(0, 0, 0, -1), NULL);
        x.sheet(0, 0, 7);
        due("another lane", x.film(0, 0, 1, -1), CAST);
        due("below", x.film(0, 0, 0, -1), INDEX);
        due("too far", x.film(0, 0, 0, 3), INDEX);
        due("highest", x.film(0, 0, 0, HIGH), INDEX);
        due("film", x.film(0, 0, 0, 2), 5);
        holds(x, 0, 0, 0, 0, 0, 1, 99, 41, -73, -47);
        x.sheet(1, 1, 5);
        due("shorts", x.film(0, 1, 1, 0), 5);
        x.sheet(2, 2, 5);
        due("ints", x.film(0, 2, 2, 0), 5);
        x.make(1, 0, 0);
        due("all bits of ints", x.wrought(0, 1, 2, 2, 0, 5), 1 << TIMES | 1 << OVER);
        due("not of shorts", x.wrought(0, 1, 1, 1, 0, 4), 1 << TIMES | 1 << OVER);
        due("not of shorts", x.wrought(0, 1, 1, 1, 0, 5), 0);
        x.sheet(3, 3, 5);
        due("longs", x.film(0, 3, 3, 0), 5);
        due("all bits of longs", x.wrought(0, 1, 3, 3, 0, 5), 1 << TIMES | 1 << OVER);
    }

    private static void promise24Sheet() {
        EtaSeries x = new EtaSeries();
        int[][] bad = {{-1, 0, 1}, {4, 0, 1}, {0, -1, 1}, {0, 4, 1}, {0, 0, 41}, {0, 0, HIGH}, {4, 0, -1}, {0, 4, -1}};
        for (int[] b : bad) {
            due("BAD", x.sheet(b[0], b[1], b[2]), BAD);
        }
        due("below 0", x.sheet(0, 0, -1), SIZE);
        due("lowest", x.sheet(0, 0, LOW), SIZE);
        due("nothing held", x.drop(0), NULL);
        due("empty", x.sheet(0, 0, 0), 0);
        due("held", x.item(0, 0, 0, 1), INDEX);
        due("40", x.sheet(0, 3, 40), 40);
        due("item 39", x.item(0, 3, 39, 5), 1);
        due("item 0", x.item(0, 3, 0, 5), 1);
        due("a new row", x.sheet(0, 3, 40), 40);
        holds(x, 0, 3, 38, 0, 0);
        holds(x, 0, 3, 0, 0, 0);
        due("shorter", x.sheet(0, 1, 3), 3);
        due("another lane", x.item(0, 3, 0, 5), CAST);
        due("behind", x.item(0, 1, 3, 5), INDEX);
        due("refused", x.sheet(0, 0, -1), SIZE);
        due("changes nothing", x.drop(0), 3);
    }

    private static void promise25Drop() {
        EtaSeries x = new EtaSeries();
        due("BAD", x.drop(-1), BAD);
        due("BAD", x.drop(4), BAD);
        due("none", x.drop(3), NULL);
        x.sheet(3, 2, 17);
        x.sheet(2, 2, 0);
        due("drop", x.drop(3), 17);
        due("again", x.drop(3), NULL);
        due("an empty one", x.drop(2), 0);
        due("again", x.drop(2), NULL);
        due("no items", x.item(3, 2, 0, 1), NULL);
    }

    private static void promise26Item() {
        EtaSeries x = new EtaSeries();
        due("BAD", x.item(-1, 0, 0, 0), BAD);
        due("BAD", x.item(4, 0, 0, 0), BAD);
        due("BAD", x.item(0, -1, 0, 0), BAD);
        due("BAD", x.item(0, 4, 0, 0), BAD);
        due("none", x.item(0, 0, -1, 0), NULL);
        x.sheet(0, 0, 3);
        due("another lane", x.item(0, 1, -1, 0), CAST);
        due("below", x.item(0, 0, -1, 0), INDEX);
        due("behind", x.item(0, 0, 3, 0), INDEX);
        due("highest", x.item(0, 0, HIGH, 0), INDEX);
        due("lowest", x.item(0, 0, LOW, 0), INDEX);
        long[] puts = {256 + 7, -7, 0x7fffffffffffffe0L};
        for (int k = 0; k < 3; k++) {
            due("item", x.item(0, 0, k, puts[k]), 1);
        }
        holds(x, 0, 0, 0, 7, -7, -32);
        x.sheet(1, 1, 2);
        x.item(1, 1, 0, 65536 + 9);
        x.item(1, 1, 1, 65535 - 8);
        holds(x, 1, 1, 0, 9, -9);
        x.sheet(2, 2, 2);
        x.item(2, 2, 0, (5L << 32) + 3);
        x.item(2, 2, 1, 0xfffffffeL);
        holds(x, 2, 2, 0, 3, -2);
        x.sheet(3, 3, 2);
        x.item(3, 3, 0, -4);
        x.item(3, 3, 1, (1L << 32) + 4);
        holds(x, 3, 3, 0, -4);
        x.make(0, 0, 0);
        x.change(0, FOLD, 4);
        x.make(1, 0, 0);
        due("all bits of longs", x.wrought(0, 1, 3, 3, 1, 1), 0);
    }

    private static void promise27Copy() {
        EtaSeries x = new EtaSeries();
        int[][] bad = {{-1, 0, 0, 0, 0}, {4, 0, 0, 0, 0}, {0, 0, -1, 0, 0}, {0, 0, 4, 0, 0}};
        for (int[] b : bad) {
            due("BAD", x.copy(b[0], b[1], b[2], b[3], b[4]), BAD);
        }
        due("none", x.copy(0, -1, 1, -1, -1), NULL);
        row(x, 0, 1, 1, 2, 3, 4, 5);
        due("no target", x.copy(0, 0, 1, 0, 1), NULL);
        due("no source", x.copy(1, 0, 0, 0, 1), NULL);
        x.sheet(1, 2, 5);
        due("unlike lanes", x.copy(0, -1, 1, -1, -1), CAST);
        x.sheet(1, 1, 3);
        int[][] wrong = {{-1, 0, 1}, {0, -1, 1}, {0, 0, -1}, {0, 0, 4}, {3, 0, 3}, {0, 1, 3}, {6, 0, 0}, {0, 4, 0},
            {-1, 0, 0}, {0, -1, 0}, {HIGH, 0, HIGH}, {0, HIGH, 1}, {0, 0, HIGH}, {0, 0, LOW}, {LOW, 0, 0}};
        for (int[] w : wrong) {
            due("index " + w[0] + " " + w[1] + " " + w[2], x.copy(0, w[0], 1, w[1], w[2]), INDEX);
        }
        due("none at the ends", x.copy(0, 5, 1, 3, 0), 0);
        due("copy", x.copy(0, 2, 1, 0, 3), 3);
        holds(x, 1, 1, 0, 3, 4, 5);
        holds(x, 0, 1, 0, 1, 2, 3, 4, 5);
        due("one", x.copy(0, 0, 1, 2, 1), 1);
        holds(x, 1, 1, 0, 3, 4, 1);
        due("up in the same", x.copy(0, 0, 0, 1, 4), 4);
        holds(x, 0, 1, 0, 1, 1, 2, 3, 4);
        due("down in the same", x.copy(0, 1, 0, 0, 4), 4);
        holds(x, 0, 1, 0, 1, 2, 3, 4, 4);
    }
}
