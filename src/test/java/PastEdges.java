/** What may be undone, drifts, seeds and images (promises 9, 10, 11, 18, 19). */
final class PastEdges extends Edges {
    private static final long STEP = 1103515245L;

    PastEdges(Sentences doc) {
        super(doc);
    }

    @Override
    void all() {
        undoneEach();
        sixAreKnown();
        asAhead();
        theDraw();
        turns();
        promise9();
        promises10And11();
        promise18();
        promise19();
    }

    private static int next(int draw) {
        return (int) ((draw * STEP + 12345) & HIGH);
    }

    /** An act on series 0 to 2 (5, 6, 7 times ONE) is undone as if it had not been. */
    private void undone(Ask act) {
        EtaSeries x = of(9, "5", "6", "7");
        row(x, 0, BYTES, 1, 1);
        int known = x.count(8);
        due("the act is refused", act.of(x) < 0 ? 1 : 0, 0);
        due("one more is known", x.count(8), known + 1);
        due("undone", x.undo(), known);
        due("series", x.count(1), 7);
        for (int s = 0; s < 3; s++) {
            sparse("series " + s, x, s, 9, 0, 5 + s);
        }
        due("length", x.count(0), 9);
        due("draw", x.seed(1), 1);
    }

    private void undoneEach() {
        String quote = "UNDONE: the latest of a SERIES made (of a QUOTIENT, too), JOINED, CHANGED, out, of a TEXT worked"
            + " out, THE LENGTH told, a turn of a DRIFT, is as it had not been";
        terms(2, quote, () -> {
            undone(x -> x.make(0, Q, 3));
            undone(x -> x.make(3, Q, 3));
        });
        terms(3, quote, () -> {
            undone(x -> x.join(1, TIMES, 0, 1));
            undone(x -> x.join(3, PLUS, 0, 1));
        });
        terms(4, quote, () -> {
            int[] v = {1, 2, 0, 20, 1, 2, 2};
            for (int act = UP; act <= FOLD; act++) {
                int of = act;
                undone(x -> x.change(1, of, v[of]));
            }
            undone(x -> x.change(1, UP, 0));
        });
        terms(5, quote, () -> undone(x -> x.out(2)));
        terms(6, quote, () -> {
            undone(x -> x.length(4));
            undone(x -> x.length(40));
        });
        terms(8, quote, () -> {
            undone(x -> work(x, 0, "t(1)"));
            undone(x -> work(x, 3, "t(1)"));
        });
        terms(9, quote, () -> {
            // the next turn makes series 2
            undone(x -> x.drift(1));
        });
        terms(21, quote, () -> {
            undone(x -> x.quotient(0, 0, BYTES, 0, 1));
            undone(x -> x.quotient(3, 0, BYTES, 0, 1));
        });
        terms(11, quote, () -> {
            EtaSeries x = new EtaSeries();
            x.seed(9);
            due("a seed is not undone", x.undo(), NONE);
        });
        terms(7, quote, () -> {
            EtaSeries x = new EtaSeries();
            x.type('1');
            due("a letter is not undone", x.undo(), NONE);
        });
        terms(24, quote, () -> {
            EtaSeries x = of("5");
            x.out(0);
            x.undo();
            x.undo();
            x.sheet(0, BYTES, 2);
            x.item(0, BYTES, 0, 1);
            x.copy(0, 0, 0, 1, 1);
            x.drop(0);
            due("sheets are not undone", x.undo(), NONE);
        });
    }

    private void sixAreKnown() {
        String quote = "(6 are known, older ones lost)";
        terms(2, quote, () -> {
            EtaSeries x = new EtaSeries();
            for (int k = 1; k <= 8; k++) {
                x.make(0, Q, k);
            }
            for (int k = 7; k >= 2; k--) {
                due("undone to " + k, x.undo(), k - 2);
                sparse("as ahead of it", x, 0, 24, k, 1);
            }
            due("older ones are lost", x.undo(), NONE);
        });
        terms(3, quote, () -> {
            EtaSeries x = of("1");
            for (int k = 0; k < 7; k++) {
                x.join(0, PLUS, 0, 0);
            }
            due("2 to the 7", x.term(0, 0), 128);
            for (int k = 6; k >= 1; k--) {
                due("undone", x.undo(), k - 1);
                due("half", x.term(0, 0), 1 << k);
            }
            due("older ones are lost", x.undo(), NONE);
        });
        terms(4, quote, () -> {
            EtaSeries x = of("1");
            for (int k = 0; k < 7; k++) {
                x.change(0, FOLD, -2);
            }
            for (int k = 6; k >= 1; k--) {
                due("undone", x.undo(), k - 1);
                due("half", x.term(0, 0), (k & 1) == 1 ? -(1 << k) : 1 << k);
            }
            due("older ones are lost", x.undo(), NONE);
        });
        terms(5, quote, () -> {
            EtaSeries x = of("1", "2", "3", "4");
            for (int s = 0; s < 4; s++) {
                x.out(s);
            }
            due("four outs, and two texts", x.count(8), 6);
            for (int k = 5; k >= 0; k--) {
                due("undone", x.undo(), k);
            }
            due("the first two texts are lost", x.undo(), NONE);
            due("series", x.count(1), 3);
        });
        terms(6, quote, () -> {
            EtaSeries x = new EtaSeries();
            for (int v = 4; v <= 10; v++) {
                x.length(v);
            }
            for (int v = 9; v >= 4; v--) {
                due("undone", x.undo(), v - 4);
                due("length", x.count(0), v);
            }
            due("24 is lost", x.undo(), NONE);
        });
        terms(8, quote, () -> {
            EtaSeries x = of("1", "1");
            for (int k = 2; k <= 8; k++) {
                work(x, 0, Integer.toString(k));
            }
            for (int k = 7; k >= 2; k--) {
                due("undone to " + k, x.undo(), k - 2);
                due("as ahead of it", x.term(0, 0), k);
            }
            due("older ones are lost", x.undo(), NONE);
        });
        terms(21, quote, () -> {
            EtaSeries x = new EtaSeries();
            row(x, 0, BYTES, 1, 1);
            for (int e = 1; e <= 7; e++) {
                x.item(0, BYTES, 1, e);
                x.quotient(0, 0, BYTES, 0, 1);
            }
            for (int e = 6; e >= 1; e--) {
                due("undone", x.undo(), e - 1);
                due("EULER to the " + e, x.term(0, 1), -e);
            }
            due("older ones are lost", x.undo(), NONE);
        });
        terms(9, quote, () -> {
            EtaSeries x = new EtaSeries();
            x.drift(7);
            due("six turns", x.count(8), 6);
            for (int k = 5; k >= 0; k--) {
                due("a turn", x.undo(), k);
            }
            due("the first turn is lost", x.undo(), NONE);
            due("and stays", x.seed(1), next(1));
            due("and stays", x.count(1), 4);
        });
        terms(10, quote, () -> {
            EtaSeries x = new EtaSeries();
            for (int k = 0; k < 20; k++) {
                x.make(0, Q, k);
                x.undo();
                x.make(0, Q, k + 1);
            }
            due("six", x.count(8), 6);
            for (int k = 5; k >= 0; k--) {
                due("undone", x.undo(), k);
                due("as ahead of it", x.term(0, 14 + k), 1);
            }
        });
        terms(13, quote, () -> {
            EtaSeries x = new EtaSeries();
            x.drift(40);
            due("six", x.count(8), 6);
            x.undo();
            due("five", x.count(8), 5);
        });
    }

    private void asAhead() {
        terms(10, "SERIES, THE LENGTH, THE DRAW are as ahead of it, whatever was told since.", () -> {
            EtaSeries x = of("5", "6");
            x.seed(9);
            x.length(7);
            x.seed(10);
            due("undone", x.undo(), 2);
            due("length", x.count(0), 24);
            due("draw", x.seed(11), 9);
            due("undone", x.undo(), 1);
            due("series", x.count(1), 1);
            due("draw", x.seed(12), 1);
            x.undo();
            due("draw", x.seed(13), 1);
            due("nothing left", x.count(1), 0);
        });
        terms(9, "SERIES, THE LENGTH, THE DRAW are as ahead of it, whatever was told since.", () -> {
            EtaSeries x = new EtaSeries();
            x.seed(77);
            x.drift(3);
            x.seed(5);
            x.undo();
            due("two turns", x.seed(5), next(next(77)));
            x.undo();
            due("one turn", x.seed(5), next(77));
            x.undo();
            due("no turn", x.seed(5), 77);
        });
    }

    private void theDraw() {
        String quote = "THE DRAW is a number of 31 bits (1 at first)";
        terms(1, quote, () -> due("at first", new EtaSeries().seed(0), 1));
        terms(11, quote, () -> {
            EtaSeries x = new EtaSeries();
            x.seed(HIGH);
            due("31 bits", x.seed(0), HIGH);
            due("0", x.seed(1), 0);
        });
        terms(9, quote, () -> {
            EtaSeries x = new EtaSeries();
            for (int k = 0; k < 100; k++) {
                x.drift(1);
                int draw = x.seed(0);
                due("below 0", draw < 0 ? 1 : 0, 0);
                x.seed(draw);
            }
        });
        terms(9, "for each turn it becomes the lowest 31 bits of itself times 1103515245 and 12345 more", () -> {
            int[][] pairs = {{1, 1103527590}, {0, 12345}, {HIGH, 1043980748}, {2, 59559187}, {1073741824, 1073754169},
                {2088216195, 0}, {230538014, HIGH}};
            for (int[] p : pairs) {
                EtaSeries x = new EtaSeries();
                x.seed(p[0]);
                x.drift(1);
                due("next of " + p[0], x.seed(0), p[1]);
            }
            EtaSeries x = new EtaSeries();
            x.drift(40);
            int draw = 1;
            for (int k = 0; k < 40; k++) {
                draw = next(draw);
            }
            due("40 turns", x.seed(0), draw);
        });
    }

    /** A seed whose next turn makes a series by itself: of a kind, of d. */
    private void turn(int seed, int series, int what, int d) {
        EtaSeries x = of(40);
        x.seed(seed);
        due("seed " + seed, x.drift(1), 1 << series);
        EtaSeries y = of(40);
        y.make(series, what, d);
        for (int k = 0; k < 40; k++) {
            due("seed " + seed + ", term " + k, x.term(series, k), y.term(series, k));
        }
        due("all terms", x.count(2 + series), 40);
    }

    private void turns() {
        String quote = "x is it by 65536 (cut): SERIES x left over by 4 becomes (0 THETA, 1 PSI, 2 EULER, by x by 4 left"
            + " over by 3) of x by 16 left over by 9, and 1.";
        terms(9, quote, () -> {
            // x is 0, 0 (65535 cut), 1, 2, 3, 4, 8, 16, 32, 127, 128, 128 (cut), 144, 32767
            turn(2088216195, 0, THETA, 1);
            turn(2032319262, 0, THETA, 1);
            turn(1742513795, 1, THETA, 1);
            turn(1396811395, 2, THETA, 1);
            turn(1051108995, 3, THETA, 1);
            turn(705406595, 0, PSI, 1);
            turn(1470080643, 0, EULER, 1);
            turn(851945091, 0, PSI, 2);
            turn(1763157635, 0, EULER, 3);
            turn(672918800, 3, PSI, 8);
            turn(787981955, 0, EULER, 9);
            turn(732085022, 0, EULER, 9);
            turn(1699194499, 0, THETA, 1);
            turn(230538014, 3, PSI, 5);
        });
    }

    private void promise9() {
        promise(9, "A DRIFT of n turns (1 .. 40;", () -> {
            EtaSeries x = new EtaSeries();
            due("1", x.drift(1), 4);
            due("one turn", x.count(8), 1);
            due("40", x.drift(40), 15);
            bad("drift", EtaSeries::drift, 0, 41, -1, LOW, HIGH);
        });
        promise(9, "each may be UNDONE, one that changes nothing, too)", () -> {
            EtaSeries x = new EtaSeries();
            // the next turn makes series 0 THETA of 1, which it is already
            x.make(0, THETA, 1);
            x.seed(2088216195);
            due("the turn", x.drift(1), 1);
            due("is known", x.count(8), 2);
            due("is undone", x.undo(), 1);
            due("draw", x.seed(1), 2088216195);
            due("the series is still there", x.count(1), 1);
        });
        promise(9, "SERIES that there are (a set) then", () -> {
            EtaSeries x = new EtaSeries();
            x.make(3, ONE, 0);
            due("3, and 2 of the turn", x.drift(1), 12);
        });
        promise(9, "BAD", () -> {
            EtaSeries x = new EtaSeries();
            due("0", x.drift(0), BAD);
            due("no turn of it", x.seed(1), 1);
            due("41", x.drift(41), BAD);
            due("no turn of it", x.seed(1), 1);
        });
    }

    private void promises10And11() {
        promise(10, "UNDONE: how many more may be.", () -> {
            EtaSeries x = of("1", "2", "3");
            due("two more", x.undo(), 2);
            due("one more", x.undo(), 1);
            due("none more", x.undo(), 0);
            due("all undone", x.count(1), 0);
        });
        promise(10, "NONE: none is known.", () -> {
            EtaSeries x = new EtaSeries();
            due("at first", x.undo(), NONE);
            x.make(0, ONE, 0);
            x.undo();
            due("all undone", x.undo(), NONE);
            x.make(4, ONE, 0);
            x.join(0, PLUS, 0, 0);
            x.length(24);
            due("what was refused is not known", x.undo(), NONE);
            due("nor is what was undone", x.undo(), NONE);
        });
        promise(11, "THE DRAW becomes v: what it was.", () -> {
            EtaSeries x = new EtaSeries();
            due("1", x.seed(0), 1);
            due("0", x.seed(HIGH), 0);
            due("highest", x.seed(7), HIGH);
            due("nothing to be undone", x.count(8), 0);
        });
        promise(11, "BAD: below 0.", () -> {
            EtaSeries x = new EtaSeries();
            due("-1", x.seed(-1), BAD);
            due("lowest", x.seed(LOW), BAD);
            due("stays", x.seed(1), 1);
        });
    }

    private void promise18() {
        promise(18, "All but SHEETS, THE TAPE, WHY is kept as an IMAGE (what may be UNDONE, too): 1.", () -> {
            EtaSeries x = of(9, "5", "6");
            x.seed(77);
            row(x, 0, BYTES, 1);
            type(x, "1");
            due("image", x.image(), 1);
            x.make(0, ONE, 0);
            x.out(1);
            x.make(3, ONE, 0);
            x.length(12);
            x.seed(78);
            type(x, "2");
            row(x, 0, BYTES, 2, 3);
            x.sheet(1, INTS, 4);
            x.restore();
            sparse("series 0", x, 0, 9, 0, 5);
            sparse("series 1", x, 1, 9, 0, 6);
            due("series", x.count(1), 3);
            due("length", x.count(0), 9);
            due("draw", x.seed(77), 77);
            due("undone", x.count(8), 3);
            due("sheets stay", x.drop(0), 2);
            due("sheets stay", x.drop(1), 4);
            due("THE TAPE stays", x.type('+'), 3);
            work(x, 2, "(1/2)");
            due("THE TAPE stays", x.count(7), '/');
            due("undo", x.undo(), 2);
            due("series 1 had not been", x.count(1), 1);
            due("draw", x.seed(1), 1);
            x.restore();
            due("WHY stays", x.count(6), 1);
        });
        promise(18, "1.", () -> {
            EtaSeries x = new EtaSeries();
            due("of an empty object", x.image(), 1);
            x.make(0, ONE, 0);
            x.restore();
            due("empty", x.count(1), 0);
            due("nothing to be undone", x.undo(), NONE);
            x.make(0, ONE, 0);
            due("another image", x.image(), 1);
            x.out(0);
            x.restore();
            due("the latest alone", x.count(1), 1);
            due("an image is not undone", x.undo(), 0);
        });
    }

    private void promise19() {
        promise(19, "All is as it was then: 1.", () -> {
            EtaSeries x = new EtaSeries();
            for (int k = 1; k <= 8; k++) {
                x.make(0, Q, k);
            }
            x.image();
            for (int turn = 0; turn < 2; turn++) {
                x.drift(9);
                due("restore", x.restore(), 1);
                due("six may be undone", x.count(8), 6);
                for (int k = 7; k >= 2; k--) {
                    due("undo", x.undo(), k - 2);
                    due("Q of " + k, x.term(0, k), 1);
                }
            }
            due("as often as told", x.restore(), 1);
            due("restoring is not undone", x.undo(), 5);
            due("Q of 7", x.term(0, 7), 1);
        });
        promise(19, "NONE: there is none.", () -> {
            EtaSeries x = of("5");
            due("none", x.restore(), NONE);
            due("nothing changed", x.term(0, 0), 5);
            x.image();
            due("one", x.restore(), 1);
        });
    }
}
