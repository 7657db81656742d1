/** Sheets, and the quotients and terms that their rows tell (promises 20 to 27). */
final class SheetEdges extends Edges {
    SheetEdges(Sentences doc) {
        super(doc);
    }

    @Override
    void all() {
        fourSheets();
        nothingAtFirst();
        fourLanes();
        signs();
        zeroToForty();
        pairs();
        quotients();
        weights();
        levels();
        bounds();
        wroughtTerms();
        promise20();
        promise21();
        promise22();
        promise23();
        promise24();
        promise25();
        promise26();
        promise27();
    }

    private void fourSheets() {
        String quote = "sheets 0 .. 3";
        terms(20, quote, () -> four("told", (x, v) -> x.told(v, INTS, 0, 1, 0)));
        terms(21, quote, () -> four("quotient", (x, v) -> x.quotient(0, v, INTS, 0, 1)));
        terms(22, quote, () -> four("wrought", (x, v) -> x.wrought(0, 1, v, INTS, 0, 1)));
        terms(23, quote, () -> four("film", (x, v) -> x.film(0, v, INTS, 0)));
        terms(24, quote, () -> four("sheet", (x, v) -> x.sheet(v, INTS, 1)));
        terms(25, quote, () -> four("drop", EtaSeries::drop));
        terms(26, quote, () -> four("item", (x, v) -> x.item(v, INTS, 0, 1)));
        terms(27, quote, () -> {
            four("copy from", (x, v) -> x.copy(v, 0, 0, 0, 1));
            four("copy to", (x, v) -> x.copy(0, 0, v, 0, 1));
        });
    }

    /** A call is NULL of each sheet at first, and of one that was dropped. */
    private void nothing(String what, AskBy call) {
        for (int k = 0; k < 4; k++) {
            due(what + " of " + k + " at first", call.of(of("1"), k), NULL);
            EtaSeries x = full();
            x.drop(k);
            due(what + " of " + k + " that was dropped", call.of(x, k), NULL);
        }
    }

    private void nothingAtFirst() {
        String quote = "nothing (at first)";
        terms(20, quote, () -> nothing("told", (x, k) -> x.told(k, INTS, 0, 1, 0)));
        terms(21, quote, () -> nothing("quotient", (x, k) -> x.quotient(0, k, INTS, 0, 1)));
        terms(22, quote, () -> nothing("wrought", (x, k) -> x.wrought(0, 0, k, INTS, 0, 1)));
        terms(23, quote, () -> nothing("film", (x, k) -> x.film(0, k, INTS, 0)));
        terms(25, quote, () -> nothing("drop", EtaSeries::drop));
        terms(26, quote, () -> nothing("item", (x, k) -> x.item(k, INTS, 0, 1)));
        terms(27, quote, () -> {
            nothing("copy from", (x, k) -> x.copy(k, 0, (k + 1) % 4, 0, 1));
            nothing("copy to", (x, k) -> x.copy((k + 1) % 4, 0, k, 0, 1));
        });
    }

    private void fourLanes() {
        String quote = "or a row of a LANE: 0 bytes, 1 shorts, 2 ints, 3 longs";
        terms(20, quote, () -> four("told", (x, v) -> x.told(0, v, 0, 1, 0)));
        terms(21, quote, () -> four("quotient", (x, v) -> x.quotient(0, 0, v, 0, 1)));
        terms(22, quote, () -> four("wrought", (x, v) -> x.wrought(0, 1, 0, v, 0, 1)));
        terms(23, quote, () -> four("film", (x, v) -> x.film(0, 0, v, 0)));
        terms(24, quote, () -> four("sheet", (x, v) -> x.sheet(0, v, 1)));
        terms(26, quote, () -> four("item", (x, v) -> x.item(0, v, 0, 1)));
    }

    private void signs() {
        String quote = "(all with a sign)";
        terms(26, quote, () -> {
            EtaSeries x = new EtaSeries();
            row(x, 0, BYTES, 127, 128, 255, 256, -128, -129);
            items("bytes", x, 0, BYTES, 0, 127, -128, -1, 0, -128, 127);
            EtaSeries y = new EtaSeries();
            row(y, 0, SHORTS, 32767, 32768, 65535, 65536, -32769);
            items("shorts", y, 0, SHORTS, 0, 32767, -32768, -1, 0, 32767);
            EtaSeries z = new EtaSeries();
            row(z, 0, INTS, 1L << 32, (1L << 32) - 1, 5 - (1L << 32), -100000000, (3L << 32) + 100000000);
            items("ints", z, 0, INTS, 0, 0, -1, 5, -100000000, 100000000);
            EtaSeries w = new EtaSeries();
            row(w, 0, LONGS, -1, -100000000, 100000000, 0);
            items("longs", w, 0, LONGS, 0, -1, -100000000, 100000000, 0);
        });
        terms(20, quote, () -> {
            for (int lane = BYTES; lane <= LONGS; lane++) {
                EtaSeries x = new EtaSeries();
                row(x, 0, lane, 12, -9);
                due("lane " + lane, x.told(0, lane, 0, 1, 0), -9);
            }
        });
        terms(22, quote, () -> {
            for (int lane = BYTES; lane <= LONGS; lane++) {
                EtaSeries x = of("0-5", "1");
                row(x, 0, lane, -5);
                due("lane " + lane, x.wrought(0, 1, 0, lane, 0, 1), 1 << TIMES | 1 << OVER);
            }
        });
    }

    private void zeroToForty() {
        String quote = "of 0 to 40 items.";
        terms(24, quote, () -> {
            EtaSeries x = new EtaSeries();
            for (int lane = BYTES; lane <= LONGS; lane++) {
                due("0", x.sheet(0, lane, 0), 0);
                due("40", x.sheet(0, lane, 40), 40);
                due("41", x.sheet(0, lane, 41), BAD);
                due("-1", x.sheet(0, lane, -1), SIZE);
            }
        });
        terms(20, quote, () -> {
            EtaSeries x = full();
            due("the last pair", x.told(0, INTS, 38, 1, 0), 1);
            due("behind it", x.told(0, INTS, 39, 1, 0), INDEX);
            due("six at the end", x.told(0, INTS, 28, 6, 0), 6);
            due("six behind it", x.told(0, INTS, 29, 6, 0), INDEX);
            x.sheet(0, INTS, 0);
            due("of none", x.told(0, INTS, 0, 1, 0), INDEX);
            x.sheet(0, INTS, 1);
            due("of half a pair", x.told(0, INTS, 0, 1, 0), INDEX);
        });
        terms(21, quote, () -> {
            EtaSeries x = full();
            due("the last pair", x.quotient(0, 0, INTS, 38, 1), 24);
            due("behind it", x.quotient(0, 0, INTS, 39, 1), INDEX);
            due("six at the end", x.quotient(0, 0, INTS, 28, 6), 24);
            due("six behind it", x.quotient(0, 0, INTS, 29, 6), INDEX);
            x.sheet(0, INTS, 0);
            due("of none", x.quotient(0, 0, INTS, 0, 1), INDEX);
        });
        terms(22, quote, () -> {
            EtaSeries x = full();
            due("the last", x.wrought(0, 0, 0, INTS, 39, 1), 1 << TIMES | 1 << OVER);
            due("behind it", x.wrought(0, 0, 0, INTS, 40, 1), INDEX);
            due("twelve at the end", x.wrought(0, 0, 0, INTS, 28, 12), 0);
            due("twelve behind it", x.wrought(0, 0, 0, INTS, 29, 12), INDEX);
            x.sheet(0, INTS, 0);
            due("of none", x.wrought(0, 0, 0, INTS, 0, 1), INDEX);
        });
        terms(23, quote, () -> {
            EtaSeries x = full();
            due("24 at the end", x.film(0, 0, INTS, 16), 24);
            due("24 behind it", x.film(0, 0, INTS, 17), INDEX);
            x.sheet(0, INTS, 23);
            due("too few", x.film(0, 0, INTS, 0), INDEX);
            x.sheet(0, INTS, 24);
            due("just so many", x.film(0, 0, INTS, 0), 24);
            x.sheet(0, INTS, 0);
            due("none", x.film(0, 0, INTS, 0), INDEX);
        });
        terms(25, quote, () -> {
            EtaSeries x = new EtaSeries();
            x.sheet(0, BYTES, 0);
            x.sheet(1, BYTES, 40);
            due("a row of 0 is not nothing", x.drop(0), 0);
            due("40", x.drop(1), 40);
        });
        terms(26, quote, () -> {
            EtaSeries x = full();
            due("the first", x.item(0, INTS, 0, 5), 1);
            due("the last", x.item(0, INTS, 39, 5), 1);
            due("behind it", x.item(0, INTS, 40, 5), INDEX);
            x.sheet(0, INTS, 0);
            due("of none", x.item(0, INTS, 0, 5), INDEX);
        });
        terms(27, quote, () -> {
            EtaSeries x = full();
            due("40", x.copy(0, 0, 1, 0, 40), 40);
            due("41", x.copy(0, 0, 1, 0, 41), INDEX);
            due("39 from 1 on", x.copy(0, 1, 1, 1, 39), 39);
            due("40 from 1 on", x.copy(0, 1, 1, 0, 40), INDEX);
            due("40 to 1 on", x.copy(0, 0, 1, 1, 40), INDEX);
            x.sheet(1, INTS, 0);
            due("one to none", x.copy(0, 0, 1, 0, 1), INDEX);
            due("one from none", x.copy(1, 0, 0, 0, 1), INDEX);
            due("none to none", x.copy(1, 0, 1, 0, 0), 0);
        });
    }

    private void pairs() {
        String quote = "A QUOTIENT is told by n pairs (1 .. 6) of a SHEET: d (1 .. 12), e (-9 .. 9)";
        int[] others = {-1, 0, 7, LOW, HIGH, 1 << 30};
        terms(20, quote, () -> {
            bad("n", (x, n) -> x.told(0, INTS, 0, n, 0), others);
            due("1", full().told(0, INTS, 0, 1, 0), 1);
            due("6", full().told(0, INTS, 0, 6, 0), 6);
            notSuch((x, n) -> x.told(0, LONGS, 0, n, 0), -9, 9);
        });
        terms(21, quote, () -> {
            bad("n", (x, n) -> x.quotient(0, 0, INTS, 0, n), others);
            due("1", full().quotient(0, 0, INTS, 0, 1), 24);
            due("6", full().quotient(0, 0, INTS, 0, 6), 24);
            notSuch((x, n) -> x.quotient(0, 0, LONGS, 0, n), 4, 4);
        });
    }

    /** A call takes n pairs: the outermost are fine (with an answer each), all behind them are NOT. */
    private void notSuch(AskBy call, int low, int high) {
        long[][] fine = {{1, -9}, {1, 9}, {12, -9}, {12, 9}};
        for (long[] f : fine) {
            EtaSeries x = of(4);
            row(x, 0, LONGS, f);
            due(f[0] + " to the " + f[1], call.of(x, 1), f[1] < 0 ? low : high);
        }
        long[][] wrong = {{0, 1}, {13, 1}, {-1, 1}, {1, -10}, {1, 10}, {257, 1}, {1, 256}, {65537, 1}, {1, 65536},
            {(1L << 32) + 1, 1}, {1, 1L << 32}, {Long.MIN_VALUE, 1}, {1, Long.MAX_VALUE}, {0, 0}, {13, 0}};
        for (long[] w : wrong) {
            EtaSeries x = of(4);
            row(x, 0, LONGS, 1, 1, w[0], w[1], 1, 1);
            due(w[0] + " to the " + w[1], call.of(x, 2), NOT);
            due(w[0] + " to the " + w[1] + " in between", call.of(x, 3), NOT);
            due(w[0] + " to the " + w[1] + " is not asked for", call.of(x, 1) == NOT ? 1 : 0, 0);
        }
    }

    private void quotient(String text, long... items) {
        EtaSeries x = of("1", text);
        row(x, 0, BYTES, items);
        due(text, x.quotient(0, 0, BYTES, 0, items.length / 2), 24);
        due(text + ", as the text tells", x.first(0, 1), NONE);
    }

    private void quotients() {
        terms(21, "EULER of d to the power e, all multiplied: from ONE on, pair by pair, TIMES or OVER, as often as e tells.",
            () -> {
                quotient("e(1)", 1, 1);
                quotient("1", 1, 0);
                quotient("1/e(1)", 1, -1);
                quotient("e(3)^8*e(3)", 3, 9);
                quotient("1/e(3)^8/e(3)", 3, -9);
                quotient("e(1)^2*e(2)/e(4)^3", 1, 2, 2, 1, 4, -3);
                quotient("e(5)", 5, 9, 5, -8);
                quotient("t(1)", 2, 5, 1, -2, 4, -2);
                quotient("e(1)*e(2)*e(3)*e(4)*e(5)*e(6)", 1, 1, 2, 1, 3, 1, 4, 1, 5, 1, 6, 1);
                quotient("1-q(10)-q(20)", 10, 1);
                quotient("1-q(11)-q(22)", 11, 1);
                quotient("1-q(12)", 12, 1);
                // the order of the pairs tells what is WIDE on the way
                EtaSeries x = of(40);
                row(x, 0, BYTES, 1, -9, 1, 9);
                row(x, 1, BYTES, 1, 9, 1, -9);
                due("great on the way", x.quotient(0, 0, BYTES, 0, 2), WIDE);
                due("not great on the way", x.quotient(0, 1, BYTES, 0, 2), 40);
                sparse("ONE", x, 0, 40, 0, 1);
            });
    }

    /** WEIGHT, LEVEL and BOUND of a quotient. */
    private void told(int weight, int level, int bound, long... items) {
        EtaSeries x = new EtaSeries();
        row(x, 3, LONGS, items);
        StringBuilder all = new StringBuilder();
        for (long v : items) {
            all.append(v).append(' ');
        }
        int n = items.length / 2;
        due("weight of " + all, x.told(3, LONGS, 0, n, 0), weight);
        due("level of " + all, x.told(3, LONGS, 0, n, 1), level);
        due("bound of " + all, x.told(3, LONGS, 0, n, 2), bound);
    }

    private void weights() {
        terms(20, "WEIGHT: all e together (half of it is the weight).", () -> {
            told(54, 16, 55, 4, 9, 4, 9, 4, 9, 4, 9, 4, 9, 4, 9);
            told(-54, 16, NONE, 4, -9, 4, -9, 4, -9, 4, -9, 4, -9, 4, -9);
            told(0, 1, 1, 12, 0);
            told(1, NONE, NONE, 1, 1);
            told(-1, NONE, NONE, 1, -1);
        });
    }

    private void levels() {
        terms(20, "LEVEL: the least N up to 600 that all d with e not 0 divide, so that 24 divides all d e together, and all"
            + " (N / d) e together; none.", () -> {
                told(24, 1, 2, 1, 9, 1, 9, 1, 6);
                told(4, 11, 3, 1, 2, 11, 2);
                // d with e 0 need not divide N
                told(4, 11, 3, 1, 2, 7, 0, 11, 2);
                told(0, 1, 1, 12, 0, 11, 0);
                // 594 is the last that any quotient has; 616 would be the next
                told(8, 594, 433, 2, 8, 9, 8, 11, -8);
                told(6, NONE, NONE, 2, 6, 7, 9, 11, -9);
                told(17, 576, 817, 3, 8, 8, 9);
                // 24 does not divide all d e together, whatever N is
                told(2, NONE, NONE, 1, 2);
                told(23, NONE, NONE, 1, 9, 1, 9, 1, 5);
                // 24 divides 4 times 12; of N it divides 4 (N / 12) from 72 on
                told(4, 72, 25, 12, 2, 12, 2);
                told(24, 12, 25, 12, 9, 12, 9, 12, 6);
            });
    }

    private void bounds() {
        terms(20, "BOUND: WEIGHT times INDEX by 24 (cut), and 1, INDEX being N, for each prime p of N times (p and 1) / p;"
            + " none: without LEVEL, or WEIGHT below 0.", () -> {
                told(24, 1, 2, 1, 9, 1, 9, 1, 6);
                told(16, 2, 3, 1, 8, 2, 8);
                // 4 times 12 by 24 is 2; 1 times 6 by 24 is 0 (cut)
                told(4, 11, 3, 1, 2, 11, 2);
                told(1, 4, 1, 2, 5, 1, -2, 4, -2);
                // of 24, 36: 2 and 3 once each
                told(4, 24, 9, 2, 1, 4, 1, 6, 1, 12, 1);
                told(4, 36, 13, 6, 4);
                // WEIGHT 0 has a BOUND, -1 has none
                told(0, 2, 1, 1, 8, 1, 8, 1, 8, 2, -8, 2, -8, 2, -8);
                told(-24, 1, NONE, 1, -9, 1, -9, 1, -6);
                told(-1, 4, NONE, 2, -5, 1, 2, 4, 2);
                told(2, NONE, NONE, 1, 2);
            });
    }

    private void wroughtTerms() {
        terms(22, "WROUGHT: a row tells n TERMS (1 .. 12), the first ones of what is made of two SERIES: ACTS 0 to 3 (a set)"
            + " by which it has so many and is so.", () -> {
                bad("n", (x, n) -> x.wrought(0, 1, 0, INTS, 0, n), -1, 0, 13, LOW, HIGH);
                EtaSeries x = of("t(1)", "s(1)", "q(12)");
                x.sheet(0, INTS, 40);
                for (int act = PLUS; act <= OVER; act++) {
                    x.join(3, act, 0, 1);
                    x.film(3, 0, INTS, 0);
                    due("12 by " + act, x.wrought(0, 1, 0, INTS, 0, 12), 1 << act);
                    x.item(0, INTS, 11, 77);
                    due("11 by " + act, x.wrought(0, 1, 0, INTS, 0, 11), 1 << act);
                    due("not 12 by " + act, x.wrought(0, 1, 0, INTS, 0, 12), 0);
                }
                x.join(3, PLUS, 0, 2);
                x.film(3, 0, INTS, 0);
                due("what differs behind the 12th is not asked", x.wrought(0, 2, 0, INTS, 0, 12), 1 << PLUS | 1 << LESS);
                due("from item 1 on it is not so", x.wrought(0, 2, 0, INTS, 1, 12), 0);
                x.change(2, CUT, 11);
                due("it has 11", x.wrought(0, 2, 0, INTS, 0, 11), 1 << PLUS | 1 << LESS);
                due("it has no 12", x.wrought(0, 2, 0, INTS, 0, 12), 0);
            });
    }

    private void promise20() {
        promise(20, "Of a QUOTIENT by n pairs of a SHEET taken as a row of a LANE", () -> {
            // ahead of the pairs and behind them stand others, which don't count
            EtaSeries x = new EtaSeries();
            row(x, 0, INTS, 7, 5, 1, 2, 11, 2, 7, 3);
            due("weight", x.told(0, INTS, 2, 2, 0), 4);
            due("level", x.told(0, INTS, 2, 2, 1), 11);
            due("bound", x.told(0, INTS, 2, 2, 2), 3);
            due("of one pair more", x.told(0, INTS, 2, 3, 0), 7);
            due("of one pair more", x.told(0, INTS, 2, 3, 1), NONE);
        });
        promise(20, "from item i on", () -> {
            EtaSeries x = new EtaSeries();
            row(x, 0, SHORTS, 99, 99, 99, 1, 8, 2, 8);
            due("3", x.told(0, SHORTS, 3, 2, 1), 2);
            due("5", x.told(0, SHORTS, 5, 1, 0), 8);
            due("6", x.told(0, SHORTS, 6, 1, 0), INDEX);
            due("0", x.told(0, SHORTS, 0, 1, 0), NOT);
        });
        promise(20, "WEIGHT (what 0), LEVEL (1; NONE), BOUND (2; NONE).", () -> {
            told(4, 11, 3, 1, 2, 11, 2);
            told(-1, NONE, NONE, 1, -1);
            bad("what", (x, what) -> x.told(0, INTS, 0, 1, what), -1, 3, LOW, HIGH);
        });
        promise(20, "BAD;", () -> {
            bad("sheet", (x, v) -> x.told(v, INTS, 0, 1, 0), -1, 4, LOW, HIGH);
            bad("lane", (x, v) -> x.told(0, v, 0, 1, 0), -1, 4, LOW, HIGH);
            bad("n", (x, v) -> x.told(0, INTS, 0, v, 0), -1, 0, 7, LOW, HIGH);
        });
        promise(20, "NULL;", () -> due("nothing", new EtaSeries().told(0, INTS, 0, 1, 0), NULL));
        promise(20, "CAST;", () -> due("another lane", full().told(0, LONGS, 0, 1, 0), CAST));
        promise(20, "INDEX;", () -> index((x, i) -> x.told(0, INTS, i, 1, 0), 39));
        promise(20, "NOT: an item is no such d, e.", () -> {
            for (int what = 0; what <= 2; what++) {
                EtaSeries x = full();
                x.item(0, INTS, 2, 13);
                due("d", x.told(0, INTS, 0, 2, what), NOT);
                due("e", x.told(0, INTS, 1, 1, what), NOT);
                due("not asked for", x.told(0, INTS, 3, 1, what) == NOT ? 1 : 0, 0);
            }
        });
    }

    /** A call on 40 ints is INDEX from an item on, and at ends of all ints. */
    private void index(AskBy call, int from) {
        for (int i : new int[] {-1, from, 40, 41, LOW, HIGH, HIGH - 1, HIGH - 11, HIGH - 23}) {
            due("item " + i, call.of(full(), i), INDEX);
        }
        due("item " + (from - 1) + " is INDEX", call.of(full(), from - 1) == INDEX ? 1 : 0, 0);
        due("item 0 is INDEX", call.of(full(), 0) == INDEX ? 1 : 0, 0);
    }

    private void promise21() {
        promise(21, "A SERIES becomes such a QUOTIENT: how many TERMS.", () -> {
            EtaSeries x = of(4, "5");
            // ahead of the pair and behind it stand others, which don't count
            row(x, 0, BYTES, 2, 7, 1, -1, 3, 7);
            due("how many", x.quotient(3, 0, BYTES, 2, 1), 4);
            series("partitions", x, 3, 1, 1, 2, 3);
            due("that one alone", x.count(1), 9);
        });
        promise(21, "BAD;", () -> {
            bad("series", (x, v) -> x.quotient(v, 0, INTS, 0, 1), -1, 4, LOW, HIGH);
            bad("sheet", (x, v) -> x.quotient(0, v, INTS, 0, 1), -1, 4, LOW, HIGH);
            bad("lane", (x, v) -> x.quotient(0, 0, v, 0, 1), -1, 4, LOW, HIGH);
        });
        promise(21, "NULL;", () -> due("nothing", new EtaSeries().quotient(0, 0, INTS, 0, 1), NULL));
        promise(21, "CAST;", () -> due("another lane", full().quotient(0, 0, SHORTS, 0, 1), CAST));
        promise(21, "INDEX;", () -> index((x, i) -> x.quotient(0, 0, INTS, i, 1), 39));
        promise(21, "NOT;", () -> {
            EtaSeries x = full();
            x.item(0, INTS, 1, 10);
            due("e", x.quotient(0, 0, INTS, 0, 1), NOT);
            x.item(0, INTS, 1, 13);
            due("d", x.quotient(0, 0, INTS, 1, 1), NOT);
        });
        promise(21, "WIDE.", () -> {
            EtaSeries x = of("5");
            row(x, 0, BYTES, 1, -9, 1, -9);
            due("WIDE", x.quotient(0, 0, BYTES, 0, 2), WIDE);
            due("the series stays", x.term(0, 0), 5);
            due("nothing to be undone", x.count(8), 1);
            due("a quotient is no TEXT", x.count(6), NONE);
        });
    }

    private void promise22() {
        promise(22, "WROUGHT of two SERIES by n items.", () -> {
            EtaSeries x = of("1+q(1)", "1");
            row(x, 0, BYTES, 9, 1, 1, 9);
            due("2", x.wrought(0, 1, 0, BYTES, 1, 2), 1 << TIMES | 1 << OVER);
            due("3", x.wrought(0, 1, 0, BYTES, 1, 3), 0);
            due("the other way round", x.wrought(1, 0, 0, BYTES, 1, 2), 1 << TIMES);
            due("nothing is changed", x.count(8), 2);
        });
        promise(22, "BAD;", () -> {
            bad("one", (x, v) -> x.wrought(v, 0, 0, INTS, 0, 1), -1, 4, LOW, HIGH);
            bad("two", (x, v) -> x.wrought(0, v, 0, INTS, 0, 1), -1, 4, LOW, HIGH);
            bad("n", (x, v) -> x.wrought(0, 0, 0, INTS, 0, v), -1, 0, 13, LOW, HIGH);
        });
        promise(22, "NULL (the SHEET);", () -> {
            due("no sheet", of("1").wrought(0, 0, 0, INTS, 0, 1), NULL);
            due("nor a series", new EtaSeries().wrought(0, 0, 0, INTS, 0, 1), NULL);
        });
        promise(22, "CAST;", () -> due("another lane", full().wrought(0, 0, 0, BYTES, 0, 1), CAST));
        promise(22, "INDEX;", () -> {
            index((x, i) -> x.wrought(0, 0, 0, INTS, i, 1), 40);
            index((x, i) -> x.wrought(0, 0, 0, INTS, i, 12), 29);
        });
        promise(22, "NOT: a SERIES is missing.", () -> {
            EtaSeries x = of("1");
            row(x, 0, BYTES, 1);
            due("two", x.wrought(0, 1, 0, BYTES, 0, 1), NOT);
            due("one", x.wrought(1, 0, 0, BYTES, 0, 1), NOT);
            due("both", x.wrought(1, 1, 0, BYTES, 0, 1), NOT);
        });
    }

    private void promise23() {
        promise(23, "TERMS of a SERIES, an item each, their lowest bits, come to a SHEET likewise: how many.", () -> {
            // 127, 128, -40000, 100000000
            EtaSeries x = of(4, "99+28+64*2*q(1)-40*10^3*q(2)+10^8*q(3)");
            for (int lane = BYTES; lane <= LONGS; lane++) {
                x.sheet(lane, lane, 6);
                for (int i = 0; i < 6; i++) {
                    x.item(lane, lane, i, 7);
                }
                due("lane " + lane, x.film(0, lane, lane, 1), 4);
            }
            items("bytes", x, BYTES, BYTES, 0, 7, 127, -128, -64, 0, 7);
            items("shorts", x, SHORTS, SHORTS, 0, 7, 127, 128, 25536, -7936, 7);
            items("ints", x, INTS, INTS, 0, 7, 127, 128, -40000, 100000000, 7);
        });
        promise(23, "BAD;", () -> {
            bad("series", (x, v) -> x.film(v, 0, INTS, 0), -1, 4, LOW, HIGH);
            bad("sheet", (x, v) -> x.film(0, v, INTS, 0), -1, 4, LOW, HIGH);
            bad("lane", (x, v) -> x.film(0, 0, v, 0), -1, 4, LOW, HIGH);
        });
        promise(23, "NOT: it is missing;", () -> {
            EtaSeries x = new EtaSeries();
            due("with no sheet", x.film(0, 0, INTS, 0), NOT);
            x.sheet(0, INTS, 40);
            due("with a sheet", x.film(0, 0, INTS, 0), NOT);
        });
        promise(23, "NULL;", () -> due("no sheet", of("1").film(0, 0, INTS, 0), NULL));
        promise(23, "CAST;", () -> due("another lane", full().film(0, 0, LONGS, 0), CAST));
        promise(23, "INDEX.", () -> index((x, i) -> x.film(0, 0, INTS, i), 17));
    }

    private void promise24() {
        promise(24, "A SHEET holds a new row of a LANE: n.", () -> {
            EtaSeries x = full();
            due("shorter", x.sheet(0, INTS, 5), 5);
            items("all 0", x, 0, INTS, 0, 0, 0, 0, 0, 0);
            x.item(0, INTS, 4, 9);
            due("longer", x.sheet(0, INTS, 6), 6);
            items("all 0", x, 0, INTS, 4, 0, 0);
            due("of another lane", x.sheet(0, BYTES, 5), 5);
            due("no ints more", x.item(0, INTS, 0, 1), CAST);
            due("bytes", x.item(0, BYTES, 4, 1), 1);
            due("another sheet stays", x.drop(1), 40);
        });
        promise(24, "BAD: also n above 40;", () -> {
            bad("n", (x, n) -> x.sheet(0, INTS, n), 41, HIGH);
            bad("sheet", (x, v) -> x.sheet(v, INTS, 1), -1, 4, LOW, HIGH);
            bad("lane", (x, v) -> x.sheet(0, v, 1), -1, 4, LOW, HIGH);
            due("40", new EtaSeries().sheet(0, INTS, 40), 40);
        });
        promise(24, "SIZE: n below 0.", () -> {
            EtaSeries x = full();
            due("-1", x.sheet(0, INTS, -1), SIZE);
            due("lowest", x.sheet(0, INTS, LOW), SIZE);
            due("what was there stays", x.drop(0), 40);
            due("0", x.sheet(0, INTS, 0), 0);
        });
    }

    private void promise25() {
        promise(25, "A SHEET holds nothing: how many items it had.", () -> {
            EtaSeries x = new EtaSeries();
            for (int n : new int[] {0, 1, 40}) {
                x.sheet(2, SHORTS, n);
                due("drop", x.drop(2), n);
                due("nothing", x.item(2, SHORTS, 0, 1), NULL);
            }
        });
        promise(25, "BAD;", () -> bad("sheet", EtaSeries::drop, -1, 4, LOW, HIGH));
        promise(25, "NULL", () -> {
            EtaSeries x = new EtaSeries();
            due("at first", x.drop(0), NULL);
            x.sheet(0, BYTES, 0);
            x.drop(0);
            due("dropped", x.drop(0), NULL);
        });
    }

    private void promise26() {
        promise(26, "Item i of a SHEET, taken as a row of a LANE, becomes v, its lowest bits: 1.", () -> {
            EtaSeries x = new EtaSeries();
            for (int lane = BYTES; lane <= LONGS; lane++) {
                x.sheet(lane, lane, 3);
                due("lane " + lane, x.item(lane, lane, 1, Long.MIN_VALUE + 5), 1);
            }
            items("bytes", x, BYTES, BYTES, 0, 0, 5, 0);
            items("shorts", x, SHORTS, SHORTS, 0, 0, 5, 0);
            items("ints", x, INTS, INTS, 0, 0, 5, 0);
            x.make(3, ONE, 0);
            x.change(3, FOLD, 5);
            due("all bits of a long", x.wrought(3, 2, LONGS, LONGS, 1, 1), 0);
            x.item(BYTES, BYTES, 2, Long.MAX_VALUE);
            items("bytes", x, BYTES, BYTES, 0, 0, 5, -1);
        });
        promise(26, "BAD;", () -> {
            bad("sheet", (x, v) -> x.item(v, INTS, 0, 1), -1, 4, LOW, HIGH);
            bad("lane", (x, v) -> x.item(0, v, 0, 1), -1, 4, LOW, HIGH);
        });
        promise(26, "NULL;", () -> due("nothing", new EtaSeries().item(0, INTS, 0, 1), NULL));
        promise(26, "CAST;", () -> due("another lane", full().item(0, LONGS, 0, 1), CAST));
        promise(26, "INDEX", () -> index((x, i) -> x.item(0, INTS, i, 1), 40));
    }

    private void promise27() {
        promise(27, "n items of a SHEET from i on come to another one (or the same) from j on, as if all were taken ahead: n.",
            () -> {
                EtaSeries x = new EtaSeries();
                row(x, 0, BYTES, 1, 2, 3, 4, 5);
                x.sheet(1, BYTES, 3);
                due("to another", x.copy(0, 3, 1, 1, 2), 2);
                items("to another", x, 1, BYTES, 0, 0, 4, 5);
                items("from it", x, 0, BYTES, 0, 1, 2, 3, 4, 5);
                due("up", x.copy(0, 0, 0, 1, 4), 4);
                items("up", x, 0, BYTES, 0, 1, 1, 2, 3, 4);
                due("down", x.copy(0, 1, 0, 0, 4), 4);
                items("down", x, 0, BYTES, 0, 1, 2, 3, 4, 4);
                due("onto itself", x.copy(0, 0, 0, 0, 5), 5);
                items("onto itself", x, 0, BYTES, 0, 1, 2, 3, 4, 4);
                due("none", x.copy(0, 0, 0, 3, 0), 0);
                items("none", x, 0, BYTES, 0, 1, 2, 3, 4, 4);
            });
        promise(27, "BAD;", () -> {
            bad("from", (x, v) -> x.copy(v, 0, 0, 0, 1), -1, 4, LOW, HIGH);
            bad("to", (x, v) -> x.copy(0, 0, v, 0, 1), -1, 4, LOW, HIGH);
        });
        promise(27, "NULL (either);", () -> {
            EtaSeries x = new EtaSeries();
            due("both", x.copy(0, 0, 1, 0, 0), NULL);
            x.sheet(0, BYTES, 1);
            due("to", x.copy(0, 0, 1, 0, 1), NULL);
            due("from", x.copy(1, 0, 0, 0, 1), NULL);
        });
        promise(27, "CAST: of unlike LANES;", () -> {
            EtaSeries x = new EtaSeries();
            x.sheet(0, BYTES, 3);
            x.sheet(1, SHORTS, 3);
            due("even of no items", x.copy(0, 0, 1, 0, 0), CAST);
            due("the other way", x.copy(1, 0, 0, 0, 1), CAST);
        });
        promise(27, "INDEX (n below 0, too).", () -> {
            index((x, i) -> x.copy(0, i, 1, 0, 1), 40);
            index((x, j) -> x.copy(0, 0, 1, j, 1), 40);
            index((x, i) -> x.copy(0, i, 1, 0, 12), 29);
            for (int n : new int[] {-1, 41, LOW, HIGH}) {
                due("n " + n, full().copy(0, 0, 1, 0, n), INDEX);
                due("n " + n, full().copy(0, 40, 1, 40, n), INDEX);
            }
            due("n -1 from 1 on", full().copy(0, 1, 1, 1, -1), INDEX);
        });
    }
}
