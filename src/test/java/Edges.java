/** What the tests of sentences share. No object is asked more than 512 calls: later answers are free. */
abstract class Edges {
    static final int BAD = -1000001, NOT = -1000002, FULL = -1000003, NONE = -1000004, WIDE = -1000005,
        ROOT = -1000006, NULL = -1000011, CAST = -1000012, INDEX = -1000013, SIZE = -1000014, FAULT = -1000020;
    static final int LOW = Integer.MIN_VALUE, HIGH = Integer.MAX_VALUE;
    static final int ONE = 0, THETA = 1, PSI = 2, EULER = 3, Q = 4;
    static final int PLUS = 0, LESS = 1, TIMES = 2, OVER = 3;
    static final int UP = 0, STRETCHED = 1, TURNED = 2, PART = 3, CUT = 4, POWER = 5, FOLD = 6;
    static final int BYTES = 0, SHORTS = 1, INTS = 2, LONGS = 3;

    /** A call of an object. */
    interface Ask {
        int of(EtaSeries x);
    }

    /** A call of an object in which one number is left open. */
    interface AskBy {
        int of(EtaSeries x, int v);
    }

    private final Sentences doc;

    Edges(Sentences doc) {
        this.doc = doc;
    }

    abstract void all();

    final void terms(int promise, String quote, Runnable test) {
        doc.terms(promise, quote, test);
    }

    final void promise(int number, String quote, Runnable test) {
        doc.promise(number, quote, test);
    }

    final void due(String what, long got, long want) {
        doc.due(what, got, want);
    }

    /** A call is BAD with each of some numbers, on an object made anew each time. */
    final void bad(String what, AskBy call, int... numbers) {
        for (int v : numbers) {
            due(what + " " + v, call.of(full(), v), BAD);
        }
    }

    /** A call is BAD with all but 0 to 3. */
    final void four(String what, AskBy call) {
        bad(what, call, -1, 4, 5, 256, LOW, HIGH);
        for (int v = 0; v < 4; v++) {
            due(what + " " + v + " is BAD", call.of(full(), v) == BAD ? 1 : 0, 0);
        }
    }

    static void type(EtaSeries x, String text) {
        for (int k = 0; k < text.length(); k++) {
            x.type(text.charAt(k));
        }
    }

    static int work(EtaSeries x, int series, String text) {
        type(x, text);
        return x.work(series);
    }

    /** A new object whose series 0, 1, .. are told by texts. */
    static EtaSeries of(String... texts) {
        return of(24, texts);
    }

    static EtaSeries of(int length, String... texts) {
        EtaSeries x = new EtaSeries();
        x.length(length);
        for (int k = 0; k < texts.length; k++) {
            work(x, k, texts[k]);
        }
        return x;
    }

    /** A text that tells v times ONE; v is at most 100000000 without its sign. */
    static String number(long v) {
        String sign = v < 0 ? "-" : "+";
        long left = Math.abs(v);
        if (left == 100000000) {
            return v < 0 ? "0-10^8" : "10^8";
        }
        return "0" + sign + left / 1000000 + "*10^6" + sign + left / 10000 % 100 + "*10^4" + sign + left / 100 % 100
            + "*10^2" + sign + left % 100;
    }

    static void row(EtaSeries x, int sheet, int lane, long... items) {
        x.sheet(sheet, lane, items.length);
        for (int k = 0; k < items.length; k++) {
            x.item(sheet, lane, k, items[k]);
        }
    }

    /** All four series (THETA of 1) and all four sheets (40 ints, 1 each: pairs of a quotient, too). */
    static EtaSeries full() {
        EtaSeries x = new EtaSeries();
        for (int k = 0; k < 4; k++) {
            x.make(k, THETA, 1);
            x.sheet(k, INTS, 40);
        }
        for (int i = 0; i < 40; i++) {
            x.item(0, INTS, i, 1);
        }
        for (int k = 1; k < 4; k++) {
            x.copy(0, 0, k, 0, 40);
        }
        return x;
    }

    /** A series has just these terms. */
    final void series(String what, EtaSeries x, int series, int... want) {
        due(what + ", terms", x.count(2 + series), want.length);
        for (int k = 0; k < want.length; k++) {
            due(what + ", term " + k, x.term(series, k), want[k]);
        }
    }

    /** A series has so many terms, 0 but at pairs of place and term. */
    final void sparse(String what, EtaSeries x, int series, int size, int... pairs) {
        int[] want = new int[size];
        for (int k = 0; k < pairs.length; k += 2) {
            want[pairs[k]] = pairs[k + 1];
        }
        series(what, x, series, want);
    }

    /** Items of a sheet from i on are these. Series 2 and 3 are used for it. */
    final void items(String what, EtaSeries x, int sheet, int lane, int i, long... want) {
        x.make(2, ONE, 0);
        for (int k = 0; k < want.length; k++) {
            if (Math.abs(want[k]) > 99) {
                work(x, 3, number(want[k]));
            } else {
                x.make(3, ONE, 0);
                x.change(3, FOLD, (int) want[k]);
            }
            due(what + ", item " + (i + k) + " is " + want[k], x.wrought(3, 2, sheet, lane, i + k, 1) >> TIMES & 1, 1);
        }
    }
}
