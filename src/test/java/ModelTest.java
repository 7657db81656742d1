import java.util.ArrayList;
import java.util.Arrays;
import java.util.List;
import java.util.Random;

/** Runs of drawn calls, up to 512 on one object: the class and the Model must answer alike. */
public final class ModelTest {
    private static final int RUNS = 3000;
    private static final int CALLS = 512;
    private static final int[] EDGES = {Integer.MIN_VALUE, Integer.MIN_VALUE + 1, -100, -99, -10, -1, 0, 1, 2, 3, 4, 5,
        6, 7, 8, 9, 10, 11, 12, 13, 24, 25, 39, 40, 41, 87, 99, 100, 126, 127, 1 << 30, Integer.MAX_VALUE - 1,
        Integer.MAX_VALUE};
    private static final Check CHECK = new Check("ModelTest");

    private final Random draws;
    private final EtaSeries it = new EtaSeries();
    private final Model model = new Model();
    private final List<String> trail = new ArrayList<>();
    private int calls = 0;
    private boolean alike = true;

    private ModelTest(long seed) {
        draws = new Random(seed);
    }

    public static void main(String[] args) {
        int runs = args.length > 0 ? Integer.parseInt(args[0]) : RUNS;
        for (int run = 1; run <= runs; run++) {
            new ModelTest(run).run(run);
        }
        CHECK.end();
    }

    private void run(int run) {
        // Each run has calls that it likes, so that states come up which even draws would hardly reach.
        int liked = draws.nextInt(6);
        while (alike && calls < CALLS) {
            step(draws.nextInt(3) == 0 ? draws.nextInt(6) : liked);
        }
        if (!alike) {
            System.out.println("run " + run + ": " + String.join("; ", trail));
        }
    }

    private void same(String call, int got, int want, int... arguments) {
        calls++;
        if (calls > CALLS) {
            // A step may go further, but what is answered then is free.
            return;
        }
        String told = call + Arrays.toString(arguments);
        trail.add(told + " " + got);
        if (got != want) {
            alike = false;
        }
        CHECK.due(told, got, want);
    }

    private int upTo(int n) {
        return draws.nextInt(n);
    }

    /** Mostly low .. high, now and then an edge or one beside. */
    private int in(int low, int high) {
        int luck = upTo(60);
        if (luck == 0) {
            return EDGES[upTo(EDGES.length)];
        }
        if (luck == 1) {
            return draws.nextBoolean() ? low - 1 : high + 1;
        }
        return low + upTo(high - low + 1);
    }

    private int four() {
        return in(0, 3);
    }

    private void step(int group) {
        switch (group) {
            case 0 -> making();
            case 1 -> text();
            case 2 -> undoing();
            case 3 -> looking();
            case 4 -> rows();
            default -> quotients();
        }
    }

    private void make(int series, int what, int d) {
        same("make", it.make(series, what, d), model.make(series, what, d), series, what, d);
    }

    private void join(int series, int act, int one, int two) {
        same("join", it.join(series, act, one, two), model.join(series, act, one, two), series, act, one, two);
    }

    private void change(int series, int act, int v) {
        same("change", it.change(series, act, v), model.change(series, act, v), series, act, v);
    }

    private void term(int series, int k) {
        same("term", it.term(series, k), model.term(series, k), series, k);
    }

    private void count(int what) {
        same("count", it.count(what), model.count(what), what);
    }

    private void lookAtAll(int series) {
        for (int k = 0; k <= 40; k++) {
            term(series, k);
        }
    }

    private void making() {
        switch (upTo(8)) {
            case 0, 1 -> {
                int what = in(0, 4);
                make(four(), what, what == 0 ? in(0, 0) : what == 4 ? in(0, 39) : in(1, 9));
            }
            case 2, 3, 4 -> join(four(), in(0, 3), four(), four());
            case 5, 6 -> {
                int act = in(0, 6);
                int m = 1 + upTo(8);
                int[] low = {0, 1, 0, 10 * m, 1, 0, -99};
                int[] high = {9, 8, 0, 10 * m + m - 1, 40, 8, 99};
                change(four(), act, act < 0 || act > 6 ? 0 : in(low[act], high[act]));
            }
            default -> {
                if (upTo(4) == 0) {
                    lookAtAll(four());
                } else {
                    int series = four();
                    same("out", it.out(series), model.out(series), series);
                }
            }
        }
    }

    private void undoing() {
        switch (upTo(7)) {
            case 0 -> same("undo", it.undo(), model.undo());
            case 1 -> {
                int v = upTo(3) == 0 ? draws.nextInt() : in(0, 9);
                same("seed", it.seed(v), model.seed(v), v);
            }
            case 2 -> {
                int n = in(1, upTo(4) == 0 ? 40 : 3);
                same("drift", it.drift(n), model.drift(n), n);
            }
            case 3 -> {
                int v = in(4, 40);
                same("length", it.length(v), model.length(v), v);
            }
            case 4 -> {
                if (upTo(3) == 0) {
                    same("image", it.image(), model.image());
                } else {
                    same("restore", it.restore(), model.restore());
                }
            }
            case 5 -> count(in(0, 8));
            default -> making();
        }
    }

    private void looking() {
        int series = four();
        int m = in(1, 8);
        int r = m > 0 && m < 100 ? in(0, m - 1) : 0;
        switch (upTo(6)) {
            case 0 -> {
                int two = four();
                same("first", it.first(series, two), model.first(series, two), series, two);
            }
            case 1 -> {
                int by = in(2, 9);
                int what = in(0, 1);
                same("fits", it.fits(series, m, r, by, what), model.fits(series, m, r, by, what), series, m, r, by, what);
            }
            case 2 -> same("found", it.found(series, m, r), model.found(series, m, r), series, m, r);
            case 3 -> {
                int n = in(0, 6);
                int c = in(0, 10);
                int what = in(0, 1);
                same("guess", it.guess(series, n, c, what), model.guess(series, n, c, what), series, n, c, what);
            }
            case 4 -> term(series, in(0, 39));
            default -> making();
        }
    }

    // ---- texts

    private void text() {
        StringBuilder text = new StringBuilder();
        sum(text, 0);
        int spoils = upTo(3) == 0 ? 1 + upTo(2) : 0;
        for (int k = 0; k < spoils; k++) {
            spoil(text);
        }
        for (int k = 0; k < text.length() && alike; k++) {
            int letter = text.charAt(k);
            same("type", it.type(letter), model.type(letter), letter);
        }
        int series = four();
        same("work", it.work(series), model.work(series), series);
        count(6);
        count(7);
        if (upTo(6) == 0) {
            lookAtAll(series);
        }
    }

    private void spoil(StringBuilder text) {
        String letters = "etsq()+-*/^0123456789  x";
        int place = upTo(text.length() + 1);
        if (upTo(3) == 0 || place == text.length()) {
            text.insert(place, letters.charAt(upTo(letters.length())));
        } else if (upTo(2) == 0) {
            text.deleteCharAt(place);
        } else {
            text.setCharAt(place, letters.charAt(upTo(letters.length())));
        }
    }

    private void blank(StringBuilder text) {
        if (upTo(12) == 0) {
            text.append(' ');
        }
    }

    private void sum(StringBuilder text, int depth) {
        part(text, depth);
        while (upTo(3) == 0) {
            text.append(draws.nextBoolean() ? '+' : '-');
            part(text, depth);
        }
    }

    private void part(StringBuilder text, int depth) {
        powers(text, depth);
        while (upTo(3) == 0) {
            text.append(draws.nextBoolean() ? '*' : '/');
            powers(text, depth);
        }
    }

    private void powers(StringBuilder text, int depth) {
        atom(text, depth);
        blank(text);
        if (upTo(4) == 0) {
            text.append('^');
            blank(text);
            text.append(upTo(20) == 0 ? 9 : upTo(9));
            blank(text);
        }
    }

    private void atom(StringBuilder text, int depth) {
        blank(text);
        int luck = upTo(10);
        if (luck < 4 && depth < 8) {
            text.append('(');
            sum(text, depth + 1);
            text.append(')');
        } else if (luck < 7) {
            text.append(upTo(3) == 0 ? 1 : upTo(2) == 0 ? 99 : upTo(105));
        } else {
            char letter = "etsq".charAt(upTo(4));
            text.append(letter);
            blank(text);
            text.append('(');
            blank(text);
            text.append(letter == 'q' ? in(0, 39) & 63 : in(1, 9) & 15);
            blank(text);
            text.append(')');
        }
    }

    // ---- sheets

    private void sheet(int sheet, int lane, int n) {
        same("sheet", it.sheet(sheet, lane, n), model.sheet(sheet, lane, n), sheet, lane, n);
    }

    private void item(int sheet, int lane, int i, long v) {
        same("item " + v, it.item(sheet, lane, i, v), model.item(sheet, lane, i, v), sheet, lane, i);
    }

    private void film(int series, int sheet, int lane, int i) {
        same("film", it.film(series, sheet, lane, i), model.film(series, sheet, lane, i), series, sheet, lane, i);
    }

    private void wrought(int one, int two, int sheet, int lane, int i, int n) {
        same("wrought", it.wrought(one, two, sheet, lane, i, n), model.wrought(one, two, sheet, lane, i, n),
            one, two, sheet, lane, i, n);
    }

    private void rows() {
        int sheet = four();
        // One lane mostly, that rows may meet.
        int lane = upTo(4) == 0 ? four() : 2;
        switch (upTo(8)) {
            case 0 -> sheet(sheet, lane, in(0, 40));
            case 1 -> {
                if (upTo(3) == 0) {
                    same("drop", it.drop(sheet), model.drop(sheet), sheet);
                } else {
                    sheet(sheet, lane, 40);
                }
            }
            case 2 -> item(sheet, lane, in(0, 39), upTo(3) == 0 ? draws.nextLong() : in(-9, 12));
            case 3 -> {
                int i = in(0, 40);
                int to = four();
                int j = in(0, 40);
                int n = in(0, 12);
                same("copy", it.copy(sheet, i, to, j, n), model.copy(sheet, i, to, j, n), sheet, i, to, j, n);
            }
            case 4, 5 -> {
                int one = four();
                int two = four();
                int i = upTo(2) == 0 ? 0 : in(0, 40);
                join(3, in(0, 3), one, two);
                film(3, sheet, lane, i);
                wrought(one, two, sheet, lane, i, in(1, 12));
            }
            case 6 -> wrought(four(), four(), sheet, lane, in(0, 40), in(1, 12));
            default -> {
                if (upTo(2) == 0) {
                    film(four(), sheet, lane, in(0, 20));
                } else {
                    making();
                }
            }
        }
    }

    private void quotients() {
        int sheet = upTo(4);
        int lane = upTo(4);
        int n = in(1, 6);
        int i = in(0, upTo(3) == 0 ? 40 : 4);
        sheet(sheet, lane, upTo(5) == 0 ? in(0, 40) : 20);
        for (int pair = 0; pair < n && pair < 6; pair++) {
            item(sheet, lane, i + 2 * pair, in(1, 12));
            item(sheet, lane, i + 2 * pair + 1, upTo(3) == 0 ? in(-9, 9) : in(-2, 3));
        }
        for (int what = 0; what < 3; what++) {
            told(sheet, lane, i, n, what);
        }
        told(four(), four(), i, n, in(0, 2));
        int series = four();
        same("quotient", it.quotient(series, sheet, lane, i, n), model.quotient(series, sheet, lane, i, n),
            series, sheet, lane, i, n);
        if (upTo(5) == 0) {
            lookAtAll(series);
        }
    }

    private void told(int sheet, int lane, int i, int n, int what) {
        same("told", it.told(sheet, lane, i, n, what), model.told(sheet, lane, i, n, what), sheet, lane, i, n, what);
    }
}
