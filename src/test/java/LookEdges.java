/** What is looked for in series: first, fits, found, guess (promises 14 to 17). */
final class LookEdges extends Edges {
    LookEdges(Sentences doc) {
        super(doc);
    }

    @Override
    void all() {
        nothingIsChanged();
        first();
        fits();
        found();
        guess();
        promise14();
        promise15();
        promise16();
        promise17();
    }

    private void changesNothing(Ask call) {
        EtaSeries x = of(9, "1/e(1)", "t(1)");
        x.seed(77);
        call.of(x);
        series("series 0", x, 0, 1, 1, 2, 3, 5, 7, 11, 15, 22);
        series("series 1", x, 1, 1, 2, 0, 0, 2, 0, 0, 0, 0);
        due("series", x.count(1), 3);
        due("length", x.count(0), 9);
        due("to be undone", x.count(8), 3);
        due("draw", x.seed(1), 77);
    }

    private void nothingIsChanged() {
        String quote = "(Nothing is changed.)";
        terms(14, quote, () -> changesNothing(x -> x.first(0, 1)));
        terms(15, quote, () -> changesNothing(x -> x.fits(0, 1, 0, 2, 1)));
        terms(16, quote, () -> changesNothing(x -> x.found(0, 1, 0)));
        terms(17, quote, () -> changesNothing(x -> x.guess(0, 6, 3, 1)));
        terms(20, quote, () -> changesNothing(x -> {
            row(x, 0, BYTES, 1, 9);
            return x.told(0, BYTES, 0, 1, 2);
        }));
    }

    private void first() {
        terms(14, "FIRST of two SERIES: the first place at which their TERMS differ, of those that both have; none.", () -> {
            EtaSeries x = of("1+q(23)", "1", "2+q(5)", "1+q(5)");
            due("at the last", x.first(0, 1), 23);
            due("at 0, not at 5", x.first(1, 2), 0);
            due("at 5", x.first(1, 3), 5);
            due("itself", x.first(2, 2), NONE);
            x.change(1, CUT, 23);
            due("the second has it not", x.first(0, 1), NONE);
            due("the first has it not", x.first(1, 0), NONE);
            x.change(1, CUT, 6);
            due("at the last that both have", x.first(3, 1), 5);
            x.change(1, CUT, 5);
            due("just behind the last", x.first(3, 1), NONE);
            x.change(1, TURNED, 0);
            due("0s have no sign", x.first(1, 3), NONE);
        });
    }

    private void fits() {
        terms(15, "FITS of a SERIES, m (1 .. 8), r (less than m), by M (2 .. 9)", () -> {
            EtaSeries x = of("5*7*8*9*t(1)");
            for (int by = 2; by <= 9; by++) {
                due("by " + by, x.fits(0, 1, 0, by, 0), 1);
            }
            for (int r = 0; r < 8; r++) {
                due("8 and " + r, x.fits(0, 8, r, 2, 0), 1);
            }
            bad("m", (y, v) -> y.fits(0, v, 0, 2, 0), -1, 0, 9, LOW, HIGH);
            bad("r", (y, v) -> y.fits(0, 1, v, 2, 0), -1, 1, LOW, HIGH);
            bad("r", (y, v) -> y.fits(0, 8, v, 2, 0), -1, 8, LOW, HIGH);
            bad("by", (y, v) -> y.fits(0, 1, 0, v, 0), -2, -1, 0, 1, 10, LOW, HIGH);
        });
        terms(15, "all TERMS at r, r and m, .. are divisible by M: whether; where it first fails; none: it holds.", () -> {
            EtaSeries x = of("3*t(1)+q(23)");
            due("fails at the last", x.fits(0, 1, 0, 3, 1), 23);
            due("fails", x.fits(0, 1, 0, 3, 0), 0);
            due("fails at the last", x.fits(0, 8, 7, 3, 1), 23);
            due("not at others", x.fits(0, 8, 6, 3, 1), NONE);
            due("not ahead of r", x.fits(0, 2, 1, 2, 1), 23);
            due("first at 0", x.fits(0, 1, 0, 5, 1), 0);
            EtaSeries y = of("0-9*t(1)");
            due("terms below 0 hold", y.fits(0, 1, 0, 9, 0), 1);
            due("terms below 0 fail", y.fits(0, 1, 0, 2, 1), 0);
            due("0s hold", y.fits(0, 5, 3, 7, 0), 1);
            y.change(0, CUT, 3);
            due("no such terms: it holds", y.fits(0, 8, 3, 2, 0), 1);
            due("no such terms: it fails nowhere", y.fits(0, 8, 3, 2, 1), NONE);
            due("the last is one", y.fits(0, 8, 2, 2, 1), NONE);
            y.change(0, CUT, 1);
            due("the only one", y.fits(0, 8, 0, 2, 1), 0);
        });
    }

    private void found() {
        terms(16, "FOUND from m, r on: of all m, r with three such TERMS at least (m rising, then r, then M), the first"
            + " that FITS, told as 1000 m, 100 r, M together; none.", () -> {
                EtaSeries x = of(40, "1/e(1)", "42*t(1)", "q(39)", "0");
                due("p(5 n + 4) by 5", x.found(0, 1, 0), 5405);
                due("p(7 n + 5) by 7", x.found(0, 6, 0), 7507);
                due("M rises last", x.found(1, 1, 0), 1002);
                due("r ahead of m", x.found(2, 2, 0), 2002);
                due("then the next m, where r 0 fails", x.found(2, 2, 1), 3102);
                due("then the next m, from r 0 on", of("q(5)").found(0, 2, 1), 3002);
                due("none behind the last", x.found(2, 8, 7), NONE);
                x.change(3, CUT, 6);
                due("2: three of 6", x.found(3, 2, 0), 2002);
                due("2, 1: three of 6", x.found(3, 2, 1), 2102);
                due("3: two of 6", x.found(3, 3, 0), NONE);
                x.change(3, CUT, 5);
                due("2: three of 5", x.found(3, 2, 0), 2002);
                due("2, 1: two of 5", x.found(3, 2, 1), NONE);
                x.change(3, CUT, 3);
                due("1: three of 3", x.found(3, 1, 0), 1002);
                x.change(3, CUT, 2);
                due("1: two of 2", x.found(3, 1, 0), NONE);
            });
        terms(16, "told as 1000 m, 100 r, M together; none.", () -> {
            EtaSeries x = of("7*q(23)+7*q(15)+7*q(7)+1", "9*q(23)");
            due("8, 7, by 7", x.found(0, 8, 7), 8707);
            x.change(0, FOLD, 9);
            due("8, 7, by the least", x.found(0, 8, 7), 8703);
            due("1, 0, by 3", x.found(1, 1, 0), 1003);
        });
    }

    private void guess() {
        terms(17, "GUESS by c of 10 (0 .. 10)", () -> {
            EtaSeries x = of("1+q(1)");
            due("0: odd ones stay odd", x.guess(0, 2, 0, 0), 0);
            due("0: even ones stay even", x.guess(0, 0, 0, 0), 1);
            due("10: odd ones become even", x.guess(0, 2, 10, 0), 1);
            due("10: even ones become odd", x.guess(0, 3, 10, 0), 0);
            bad("c", (y, v) -> y.guess(0, 1, v, 0), -1, 11, LOW, HIGH);
        });
        terms(17, "each of the first n TERMS (0 .. 6; no more than there are) of a SERIES is 1 more by c of 10, apart: how"
            + " likely they are all even", () -> {
                EtaSeries x = of("e(1)");
                int[][] want = {{0, 1, 1}, {1, 3, 10}, {2, 9, 100}, {3, 27, 1000}, {4, 189, 10000}, {5, 1323, 100000},
                    {6, 3969, 1000000}};
                for (int[] w : want) {
                    due("above of " + w[0], x.guess(0, w[0], 3, 0), w[1]);
                    due("below of " + w[0], x.guess(0, w[0], 3, 1), w[2]);
                }
                bad("n", (y, v) -> y.guess(0, v, 1, 0), -1, 7, LOW, HIGH);
                x.change(0, CUT, 6);
                due("6 of 6", x.guess(0, 6, 3, 0), 3969);
                x.change(0, CUT, 5);
                due("6 of 5", x.guess(0, 6, 3, 0), BAD);
                due("5 of 5", x.guess(0, 5, 3, 0), 1323);
                x.change(0, CUT, 1);
                due("2 of 1", x.guess(0, 2, 3, 0), BAD);
                due("0 of 1", x.guess(0, 0, 3, 0), 1);
                EtaSeries y = of("0-1-2*q(1)");
                due("odd below 0", y.guess(0, 1, 1, 0), 1);
                due("even below 0", y.guess(0, 2, 1, 0), 9);
            });
        terms(17, "a fraction in lowest terms", () -> {
            EtaSeries x = of("e(1)");
            int[][] want = {{6, 5, 1, 64}, {4, 4, 24, 625}, {6, 2, 16, 15625}, {3, 10, 1, 1}, {6, 0, 0, 1}, {6, 10, 0, 1},
                {1, 5, 1, 2}, {2, 2, 1, 25}, {0, 0, 1, 1}, {0, 10, 1, 1}, {4, 8, 64, 625}};
            for (int[] w : want) {
                due("above of " + w[0] + " by " + w[1], x.guess(0, w[0], w[1], 0), w[2]);
                due("below of " + w[0] + " by " + w[1], x.guess(0, w[0], w[1], 1), w[3]);
            }
        });
    }

    private void promise14() {
        promise(14, "FIRST; NONE.", () -> {
            EtaSeries x = of("1", "1", "2");
            due("none", x.first(0, 1), NONE);
            due("0 is a place", x.first(0, 2), 0);
        });
        promise(14, "BAD;", () -> {
            bad("one", (x, v) -> x.first(v, 0), -1, 4, LOW, HIGH);
            bad("two", (x, v) -> x.first(0, v), -1, 4, LOW, HIGH);
        });
        promise(14, "NULL (either)", () -> {
            EtaSeries x = of("1");
            due("one", x.first(1, 0), NULL);
            due("two", x.first(0, 1), NULL);
            due("both", x.first(1, 1), NULL);
        });
    }

    private void promise15() {
        promise(15, "whether (what 0; 1, 0)", () -> {
            EtaSeries x = of("2*t(1)");
            due("it does", x.fits(0, 1, 0, 2, 0), 1);
            due("it does not", x.fits(0, 1, 0, 3, 0), 0);
        });
        promise(15, "where it fails (1; NONE)", () -> {
            EtaSeries x = of("2*t(1)");
            due("nowhere", x.fits(0, 1, 0, 2, 1), NONE);
            due("at 0", x.fits(0, 1, 0, 3, 1), 0);
            due("at 4", x.fits(0, 4, 0, 4, 1), 0);
            due("at 1", x.fits(0, 4, 1, 8, 1), 1);
        });
        promise(15, "BAD;", () -> bad("what", (x, v) -> x.fits(0, 1, 0, 2, v), -1, 2, LOW, HIGH));
        promise(15, "NULL", () -> due("missing", of("1").fits(1, 1, 0, 2, 0), NULL));
    }

    private void promise16() {
        promise(16, "FOUND from m, r on (r too)", () -> {
            EtaSeries x = of(40, "1/e(1)");
            due("from it on", x.found(0, 5, 4), 5405);
            due("from the one ahead", x.found(0, 5, 3), 5405);
            due("from the next on", x.found(0, 6, 0), 7507);
            due("from it on", x.found(0, 7, 5), 7507);
            EtaSeries y = of("0");
            due("the first of all", y.found(0, 1, 0), 1002);
            due("the last of all", y.found(0, 8, 7), 8702);
        });
        promise(16, "NONE.", () -> {
            EtaSeries x = of(40, "1/e(1)");
            due("none from here on", x.found(0, 7, 6), NONE);
            due("none at the last", x.found(0, 8, 7), NONE);
        });
        promise(16, "BAD;", () -> {
            bad("m", (x, v) -> x.found(0, v, 0), -1, 0, 9, LOW, HIGH);
            bad("r", (x, v) -> x.found(0, 1, v), -1, 1, LOW, HIGH);
            bad("r", (x, v) -> x.found(0, 8, v), -1, 8, LOW, HIGH);
        });
        promise(16, "NULL", () -> due("missing", of("1").found(1, 1, 0), NULL));
    }

    private void promise17() {
        promise(17, "above (what 0), below (1)", () -> {
            EtaSeries x = of("1");
            due("above", x.guess(0, 1, 3, 0), 3);
            due("below", x.guess(0, 1, 3, 1), 10);
        });
        promise(17, "BAD;", () -> bad("what", (x, v) -> x.guess(0, 1, 3, v), -1, 2, LOW, HIGH));
        promise(17, "NULL", () -> due("missing", of("1").guess(1, 1, 3, 0), NULL));
    }
}
