/** The first paragraph of Terms: which refusals there are, in which order they go, and that they change nothing. */
final class RefusalEdges extends Edges {
    RefusalEdges(Sentences doc) {
        super(doc);
    }

    @Override
    void all() {
        numbers();
        notAsTold();
        badAheadInSeries();
        badAheadInLooking();
        badAheadInSheets();
        badBehindNull();
        firstNamed();
        orderOfTheMachine();
        anotherLane();
        indexWithoutItems();
        askedOfThere();
        changesNothingInSeries();
        changesNothingInLooking();
        changesNothingInSheets();
        changesButAsTold();
        sets();
    }

    private void numbers() {
        EtaSeries x = new EtaSeries();
        terms(0, "BAD -1000001", () -> {
            due("BAD", EtaSeries.BAD, -1000001);
            due("out", x.out(4), -1000001);
        });
        terms(0, "NOT -1000002 (as told)", () -> {
            due("NOT", EtaSeries.NOT, -1000002);
            due("length", x.length(24), -1000002);
        });
        terms(0, "FULL -1000003", () -> {
            due("FULL", EtaSeries.FULL, -1000003);
            EtaSeries y = new EtaSeries();
            type(y, "1".repeat(60));
            due("type", y.type('1'), -1000003);
        });
        terms(0, "NONE -1000004 (as told)", () -> {
            due("NONE", EtaSeries.NONE, -1000004);
            due("undo", x.undo(), -1000004);
        });
        terms(0, "WIDE -1000005", () -> {
            due("WIDE", EtaSeries.WIDE, -1000005);
            due("work", work(x, 0, "99^8"), -1000005);
        });
        terms(0, "ROOT -1000006", () -> {
            due("ROOT", EtaSeries.ROOT, -1000006);
            due("work", work(x, 0, "1/2"), -1000006);
        });
        terms(0, "NULL -1000011", () -> {
            due("NULL", EtaSeries.NULL, -1000011);
            due("out", x.out(0), -1000011);
        });
        terms(0, "CAST -1000012", () -> {
            due("CAST", EtaSeries.CAST, -1000012);
            x.sheet(0, BYTES, 1);
            due("item", x.item(0, INTS, 0, 0), -1000012);
        });
        terms(0, "INDEX -1000013", () -> {
            due("INDEX", EtaSeries.INDEX, -1000013);
            due("item", x.item(0, BYTES, 1, 0), -1000013);
        });
        terms(0, "SIZE -1000014", () -> {
            due("SIZE", EtaSeries.SIZE, -1000014);
            due("sheet", x.sheet(0, BYTES, -1), -1000014);
        });
        terms(0, "Answers below 0", () -> {
            int[] all = {EtaSeries.BAD, EtaSeries.NOT, EtaSeries.FULL, EtaSeries.NONE, EtaSeries.WIDE, EtaSeries.ROOT,
                EtaSeries.NULL, EtaSeries.CAST, EtaSeries.INDEX, EtaSeries.SIZE};
            for (int refusal : all) {
                due("below 0", refusal < 0 ? 1 : 0, 1);
            }
        });
        terms(0, "are refusals, where no other numbers below 0 may be", () -> {
            EtaSeries y = of("0-1");
            row(y, 0, INTS, 1, -9);
            due("a term", y.term(0, 0), -1);
            due("a weight", y.told(0, INTS, 0, 1, 0), -9);
        });
    }

    /** Each number of a call that has bounds is BAD just outside of them. */
    private void notAsTold() {
        String quote = "(a number is not as told, there is no such thing)";
        terms(2, quote, () -> {
            bad("kind", (x, v) -> x.make(0, v, 0), -1, 5);
            bad("THETA", (x, v) -> x.make(0, THETA, v), 0, 10);
            bad("Q", (x, v) -> x.make(0, Q, v), -1, 40);
        });
        terms(3, quote, () -> bad("act", (x, v) -> x.join(0, v, 0, 0), -1, 4));
        terms(4, quote, () -> bad("act", (x, v) -> x.change(0, v, 0), -1, 7));
        terms(5, quote, () -> bad("series", EtaSeries::out, -1, 4));
        terms(6, quote, () -> bad("length", EtaSeries::length, 3, 41));
        terms(7, quote, () -> bad("letter", EtaSeries::type, 31, 127));
        terms(8, quote, () -> bad("series", EtaSeries::work, -1, 4));
        terms(9, quote, () -> bad("turns", EtaSeries::drift, 0, 41));
        terms(11, quote, () -> bad("draw", EtaSeries::seed, -1));
        terms(12, quote, () -> bad("place", (x, v) -> x.term(0, v), -1, 24));
        terms(13, quote, () -> bad("what", EtaSeries::count, -1, 9));
        terms(14, quote, () -> bad("series", (x, v) -> x.first(v, v), -1, 4));
        terms(15, quote, () -> {
            bad("m", (x, v) -> x.fits(0, v, 0, 2, 0), 0, 9);
            bad("r", (x, v) -> x.fits(0, 3, v, 2, 0), -1, 3);
            bad("by", (x, v) -> x.fits(0, 1, 0, v, 0), 1, 10);
            bad("what", (x, v) -> x.fits(0, 1, 0, 2, v), -1, 2);
        });
        terms(16, quote, () -> {
            bad("m", (x, v) -> x.found(0, v, 0), 0, 9);
            bad("r", (x, v) -> x.found(0, 3, v), -1, 3);
        });
        terms(17, quote, () -> {
            bad("n", (x, v) -> x.guess(0, v, 0, 0), -1, 7);
            bad("c", (x, v) -> x.guess(0, 0, v, 0), -1, 11);
            bad("what", (x, v) -> x.guess(0, 0, 0, v), -1, 2);
        });
        terms(20, quote, () -> {
            bad("n", (x, v) -> x.told(0, INTS, 0, v, 0), 0, 7);
            bad("what", (x, v) -> x.told(0, INTS, 0, 1, v), -1, 3);
        });
        terms(21, quote, () -> bad("n", (x, v) -> x.quotient(0, 0, INTS, 0, v), 0, 7));
        terms(22, quote, () -> bad("n", (x, v) -> x.wrought(0, 0, 0, INTS, 0, v), 0, 13));
        terms(23, quote, () -> bad("lane", (x, v) -> x.film(0, 0, v, 0), -1, 4));
        terms(24, quote, () -> bad("n", (x, v) -> x.sheet(0, INTS, v), 41));
        terms(25, quote, () -> bad("sheet", EtaSeries::drop, -1, 4));
        terms(26, quote, () -> bad("lane", (x, v) -> x.item(0, v, 0, 0), -1, 4));
        terms(27, quote, () -> bad("sheet", (x, v) -> x.copy(v, 0, v, 0, 0), -1, 4));
    }

    private static final String BAD_AHEAD = "of several BAD ahead of all others";

    private void badAheadInSeries() {
        terms(3, BAD_AHEAD, () -> {
            EtaSeries x = new EtaSeries();
            due("ahead of NULL", x.join(4, PLUS, 0, 1), BAD);
            due("ahead of NULL", x.join(0, 4, 0, 1), BAD);
            due("ahead of NULL", x.join(0, PLUS, 4, 1), BAD);
            due("ahead of NULL", x.join(0, PLUS, 0, 4), BAD);
            EtaSeries y = of("2", "10^8");
            due("ahead of ROOT", y.join(4, OVER, 1, 0), BAD);
            due("ahead of WIDE", y.join(4, PLUS, 1, 1), BAD);
        });
        terms(4, BAD_AHEAD, () -> {
            EtaSeries x = of("10^8");
            int[][] wrong = {{7, 0}, {-1, 0}, {UP, 10}, {STRETCHED, 0}, {TURNED, 1}, {PART, 88}, {CUT, 0}, {POWER, 9},
                {FOLD, 100}};
            for (int[] w : wrong) {
                due("ahead of NULL " + w[0], x.change(1, w[0], w[1]), BAD);
            }
            due("ahead of WIDE", x.change(0, FOLD, 100), BAD);
            due("ahead of WIDE", x.change(0, POWER, 9), BAD);
            x.change(0, CUT, 1);
            due("ahead of NOT", x.change(0, PART, 22), BAD);
            due("NOT", x.change(0, PART, 21), NOT);
        });
        terms(7, BAD_AHEAD, () -> {
            EtaSeries x = new EtaSeries();
            type(x, "1".repeat(60));
            due("ahead of FULL", x.type(31), BAD);
            due("ahead of FULL", x.type(127), BAD);
            due("FULL", x.type(126), FULL);
        });
        terms(8, BAD_AHEAD, () -> {
            EtaSeries x = new EtaSeries();
            due("ahead of a FAULT", x.work(4), BAD);
            type(x, "1/2");
            due("ahead of ROOT", x.work(-1), BAD);
            due("ROOT", x.work(0), ROOT);
            type(x, "99^8");
            due("ahead of WIDE", x.work(4), BAD);
            due("WIDE", x.work(0), WIDE);
        });
        terms(12, BAD_AHEAD, () -> {
            EtaSeries x = new EtaSeries();
            due("ahead of NULL", x.term(0, -1), BAD);
            due("ahead of NULL", x.term(0, LOW), BAD);
            due("NULL", x.term(0, 0), NULL);
        });
    }

    private void badAheadInLooking() {
        terms(14, BAD_AHEAD, () -> {
            EtaSeries x = new EtaSeries();
            due("ahead of NULL", x.first(0, 4), BAD);
            due("ahead of NULL", x.first(-1, 0), BAD);
        });
        terms(15, BAD_AHEAD, () -> {
            EtaSeries x = new EtaSeries();
            int[][] wrong = {{0, 0, 2, 0}, {9, 0, 2, 0}, {1, 1, 2, 0}, {1, -1, 2, 0}, {1, 0, 1, 0}, {1, 0, 10, 0},
                {1, 0, 2, -1}, {1, 0, 2, 2}};
            for (int[] w : wrong) {
                due("ahead of NULL", x.fits(0, w[0], w[1], w[2], w[3]), BAD);
            }
        });
        terms(16, BAD_AHEAD, () -> {
            EtaSeries x = new EtaSeries();
            due("ahead of NULL", x.found(0, 0, 0), BAD);
            due("ahead of NULL", x.found(0, 9, 0), BAD);
            due("ahead of NULL", x.found(0, 1, 1), BAD);
            due("ahead of NULL", x.found(0, 8, -1), BAD);
        });
        terms(17, BAD_AHEAD, () -> {
            EtaSeries x = new EtaSeries();
            int[][] wrong = {{-1, 0, 0}, {7, 0, 0}, {0, -1, 0}, {0, 11, 0}, {0, 0, -1}, {0, 0, 2}};
            for (int[] w : wrong) {
                due("ahead of NULL", x.guess(0, w[0], w[1], w[2]), BAD);
            }
        });
    }

    private void badAheadInSheets() {
        terms(20, BAD_AHEAD, () -> {
            EtaSeries x = new EtaSeries();
            row(x, 0, BYTES, 13, 10);
            for (int sheet = 0; sheet < 2; sheet++) {
                due("lane", x.told(sheet, 4, -1, 1, 0), BAD);
                due("n", x.told(sheet, INTS, -1, 7, 0), BAD);
                due("n", x.told(sheet, BYTES, -1, 0, 0), BAD);
                due("what", x.told(sheet, BYTES, 0, 1, 3), BAD);
                due("what", x.told(sheet, BYTES, 0, 1, -1), BAD);
            }
        });
        terms(21, BAD_AHEAD, () -> {
            EtaSeries x = new EtaSeries();
            row(x, 0, BYTES, 13, 10);
            row(x, 2, BYTES, 1, -9, 1, -9);
            due("ahead of WIDE", x.quotient(4, 2, BYTES, 0, 2), BAD);
            for (int sheet = 0; sheet < 2; sheet++) {
                due("series", x.quotient(4, sheet, INTS, -1, 1), BAD);
                due("lane", x.quotient(0, sheet, 4, 0, 1), BAD);
                due("n", x.quotient(0, sheet, BYTES, 0, 0), BAD);
                due("n", x.quotient(0, sheet, BYTES, 0, 7), BAD);
            }
        });
        terms(22, BAD_AHEAD, () -> {
            EtaSeries x = new EtaSeries();
            x.sheet(0, BYTES, 1);
            for (int sheet = 0; sheet < 2; sheet++) {
                due("one", x.wrought(4, 0, sheet, INTS, -1, 1), BAD);
                due("two", x.wrought(0, 4, sheet, BYTES, -1, 1), BAD);
                due("lane", x.wrought(0, 0, sheet, 4, 0, 1), BAD);
                due("n", x.wrought(0, 0, sheet, BYTES, 0, 0), BAD);
                due("n", x.wrought(0, 0, sheet, BYTES, 0, 13), BAD);
            }
        });
        terms(23, BAD_AHEAD, () -> {
            EtaSeries x = new EtaSeries();
            due("ahead of NOT", x.film(0, 4, 0, -1), BAD);
            due("ahead of NOT", x.film(0, 0, 4, -1), BAD);
        });
        terms(24, BAD_AHEAD, () -> {
            EtaSeries x = new EtaSeries();
            due("ahead of SIZE", x.sheet(4, BYTES, -1), BAD);
            due("ahead of SIZE", x.sheet(0, 4, -1), BAD);
            due("SIZE", x.sheet(0, BYTES, -1), SIZE);
        });
        terms(26, BAD_AHEAD, () -> {
            EtaSeries x = new EtaSeries();
            due("ahead of NULL", x.item(0, 4, -1, 0), BAD);
            x.sheet(0, BYTES, 1);
            due("ahead of CAST", x.item(0, -1, 0, 0), BAD);
            due("ahead of INDEX", x.item(0, 4, 1, 0), BAD);
        });
        terms(27, BAD_AHEAD, () -> {
            EtaSeries x = new EtaSeries();
            due("ahead of NULL", x.copy(0, 0, 4, 0, 0), BAD);
            due("ahead of NULL", x.copy(4, 0, 0, 0, 0), BAD);
            x.sheet(0, BYTES, 1);
            due("ahead of INDEX", x.copy(0, -1, 4, 0, 0), BAD);
            due("ahead of INDEX", x.copy(-1, 0, 0, -1, -1), BAD);
        });
    }

    private void badBehindNull() {
        String quote = "(but BAD of more TERMS than a SERIES has: behind NULL)";
        terms(4, quote, () -> {
            EtaSeries x = of("1");
            due("there", x.change(0, CUT, 25), BAD);
            for (int v : new int[] {1, 24, 25, 40, 41, HIGH}) {
                due("missing " + v, x.change(1, CUT, v), NULL);
            }
        });
        terms(12, quote, () -> {
            EtaSeries x = of("1");
            due("there", x.term(0, 24), BAD);
            for (int k : new int[] {0, 24, 39, 40, HIGH}) {
                due("missing " + k, x.term(1, k), NULL);
            }
        });
        terms(17, quote, () -> {
            EtaSeries x = of("1");
            x.change(0, CUT, 5);
            due("there", x.guess(0, 6, 0, 0), BAD);
            due("missing", x.guess(1, 6, 0, 0), NULL);
            due("missing", x.guess(1, 0, 0, 0), NULL);
        });
    }

    private void firstNamed() {
        String quote = "then the first that a call names";
        terms(3, quote, () -> {
            EtaSeries x = of("0", "99^4", "2+99^4*q(1)");
            due("NULL ahead of ROOT", x.join(0, OVER, 3, 0), NULL);
            due("ROOT ahead of WIDE", x.join(0, OVER, 1, 2), ROOT);
        });
        terms(20, quote, () -> {
            EtaSeries x = new EtaSeries();
            due("NULL", x.told(0, BYTES, -1, 1, 0), NULL);
            row(x, 0, INTS, 13, 10);
            due("CAST ahead of INDEX", x.told(0, BYTES, -1, 1, 0), CAST);
            due("INDEX ahead of NOT", x.told(0, INTS, 1, 1, 0), INDEX);
            due("INDEX ahead of NOT", x.told(0, INTS, 0, 2, 0), INDEX);
            due("NOT", x.told(0, INTS, 0, 1, 0), NOT);
        });
        terms(21, quote, () -> {
            EtaSeries x = new EtaSeries();
            due("NULL", x.quotient(0, 0, BYTES, -1, 1), NULL);
            row(x, 0, INTS, 1, -9, 1, -9, 13, 0);
            due("CAST ahead of INDEX", x.quotient(0, 0, BYTES, -1, 1), CAST);
            due("INDEX ahead of NOT", x.quotient(0, 0, INTS, 2, 3), INDEX);
            due("NOT ahead of WIDE", x.quotient(0, 0, INTS, 0, 3), NOT);
            due("WIDE", x.quotient(0, 0, INTS, 0, 2), WIDE);
        });
        terms(22, quote, () -> {
            EtaSeries x = new EtaSeries();
            due("NULL", x.wrought(0, 1, 0, BYTES, -1, 1), NULL);
            x.sheet(0, INTS, 2);
            due("CAST", x.wrought(0, 1, 0, BYTES, -1, 1), CAST);
            due("INDEX", x.wrought(0, 1, 0, INTS, -1, 1), INDEX);
            due("NOT", x.wrought(0, 1, 0, INTS, 0, 1), NOT);
        });
        terms(23, quote, () -> {
            EtaSeries x = new EtaSeries();
            due("NOT ahead of NULL", x.film(0, 0, BYTES, -1), NOT);
            x.sheet(0, INTS, 2);
            due("NOT ahead of CAST", x.film(0, 0, BYTES, 0), NOT);
            due("NOT ahead of INDEX", x.film(0, 0, INTS, -1), NOT);
        });
    }

    private void orderOfTheMachine() {
        String quote = "(NULL, CAST, INDEX, SIZE in this order";
        terms(20, quote, () -> order((x, lane) -> x.told(0, lane, -1, 1, 0)));
        terms(21, quote, () -> order((x, lane) -> x.quotient(0, 0, lane, -1, 1)));
        terms(22, quote, () -> order((x, lane) -> x.wrought(0, 0, 0, lane, -1, 1)));
        terms(23, quote, () -> order((x, lane) -> x.film(0, 0, lane, -1)));
        terms(26, quote, () -> order((x, lane) -> x.item(0, lane, -1, 1)));
        terms(27, quote, () -> {
            EtaSeries x = new EtaSeries();
            due("NULL ahead of INDEX", x.copy(0, -1, 1, -1, -1), NULL);
            x.sheet(0, BYTES, 1);
            due("NULL ahead of INDEX", x.copy(0, -1, 1, -1, -1), NULL);
            due("NULL ahead of INDEX", x.copy(1, -1, 0, -1, -1), NULL);
            x.sheet(1, INTS, 1);
            due("CAST ahead of INDEX", x.copy(0, -1, 1, -1, -1), CAST);
            due("INDEX", x.copy(0, -1, 0, -1, -1), INDEX);
        });
    }

    private void order(AskBy call) {
        EtaSeries x = of("1");
        due("NULL ahead of CAST and INDEX", call.of(x, BYTES), NULL);
        x.sheet(0, INTS, 40);
        due("CAST ahead of INDEX", call.of(x, BYTES), CAST);
        due("INDEX", call.of(x, INTS), INDEX);
    }

    private void anotherLane() {
        String quote = "(of SHEETS another LANE)";
        terms(20, quote, () -> lanes((x, lane) -> x.told(0, lane, 0, 1, 0)));
        terms(21, quote, () -> lanes((x, lane) -> x.quotient(0, 0, lane, 0, 1)));
        terms(22, quote, () -> lanes((x, lane) -> x.wrought(0, 0, 0, lane, 0, 1)));
        terms(23, quote, () -> lanes((x, lane) -> x.film(0, 0, lane, 0)));
        terms(26, quote, () -> lanes((x, lane) -> x.item(0, lane, 0, 1)));
        terms(27, quote, () -> lanes((x, lane) -> {
            x.sheet(1, lane, 40);
            return x.copy(0, 0, 1, 0, 1);
        }));
        terms(27, quote, () -> lanes((x, lane) -> {
            x.sheet(1, lane, 40);
            return x.copy(1, 0, 0, 0, 1);
        }));
    }

    private void lanes(AskBy call) {
        for (int is = BYTES; is <= LONGS; is++) {
            for (int as = BYTES; as <= LONGS; as++) {
                EtaSeries x = of("1");
                x.sheet(0, is, 40);
                x.item(0, is, 0, 1);
                due("lane " + is + " as " + as + " is CAST", call.of(x, as) == CAST ? 1 : 0, is == as ? 0 : 1);
            }
        }
    }

    private void indexWithoutItems() {
        terms(27, "INDEX also where no item is taken, if i, j is below 0, or above how many there are)", () -> {
            EtaSeries x = new EtaSeries();
            x.sheet(0, INTS, 5);
            x.sheet(1, INTS, 3);
            x.sheet(2, INTS, 0);
            due("from the end", x.copy(0, 5, 1, 3, 0), 0);
            due("i above", x.copy(0, 6, 1, 0, 0), INDEX);
            due("j above", x.copy(0, 0, 1, 4, 0), INDEX);
            due("i below", x.copy(0, -1, 1, 0, 0), INDEX);
            due("j below", x.copy(0, 0, 1, -1, 0), INDEX);
            due("lowest", x.copy(0, LOW, 1, 0, 0), INDEX);
            due("highest", x.copy(0, 0, 1, HIGH, 0), INDEX);
            due("none of none", x.copy(2, 0, 2, 0, 0), 0);
            due("above none", x.copy(2, 1, 0, 0, 0), INDEX);
            due("above none", x.copy(0, 0, 2, 1, 0), INDEX);
        });
    }

    private void askedOfThere() {
        String quote = "How many TERMS there are is asked of a SERIES that is there alone; of a missing one NULL goes"
            + " ahead of what hangs on that.";
        terms(4, quote, () -> {
            EtaSeries x = of("1");
            x.change(0, CUT, 3);
            due("CUT", x.change(0, CUT, 4), BAD);
            due("CUT of a missing one", x.change(1, CUT, 4), NULL);
            due("PART", x.change(0, PART, 87), NOT);
            due("PART of a missing one", x.change(1, PART, 87), NULL);
            due("what hangs on nothing is BAD", x.change(1, PART, 88), BAD);
        });
        terms(12, quote, () -> {
            EtaSeries x = of("1");
            x.out(0);
            due("out", x.term(0, 24), NULL);
            due("what hangs on nothing is BAD", x.term(0, -1), BAD);
        });
        terms(17, quote, () -> {
            EtaSeries x = of("1");
            x.change(0, CUT, 1);
            due("there", x.guess(0, 2, 5, 0), BAD);
            x.out(0);
            due("out", x.guess(0, 2, 5, 0), NULL);
            due("what hangs on nothing is BAD", x.guess(0, 7, 5, 0), BAD);
        });
    }

    /** An object with something of everything; `why` is a text that breaks, `tape` one that stands on THE TAPE. */
    private static EtaSeries rich(String why, String tape) {
        EtaSeries x = new EtaSeries();
        x.length(5);
        x.make(1, THETA, 4);
        x.image();
        x.make(0, EULER, 1);
        x.make(1, Q, 1);
        work(x, 2, "10^8");
        x.seed(77);
        work(x, 0, why);
        row(x, 0, INTS, 1, 2, 3, 4, 5, 6, 7, 8, 9, 1, 2, 3);
        row(x, 1, BYTES, 1, -9, 1, -9, 1, -9, 1, -9, 1, -9, 1, -9, 13, 1);
        x.sheet(2, LONGS, 0);
        type(x, tape);
        return x;
    }

    private static void seriesOf(EtaSeries x, StringBuilder all) {
        for (int s = 0; s < 4; s++) {
            int size = x.count(2 + s);
            all.append(" series ").append(s);
            for (int k = 0; k < size; k++) {
                all.append(' ').append(x.term(s, k));
            }
        }
    }

    /** All that an object tells of itself, by calls that use it up. */
    private static String view(EtaSeries x) {
        StringBuilder all = new StringBuilder();
        for (int what = 0; what <= 8; what++) {
            all.append(' ').append(x.count(what));
        }
        seriesOf(x, all);
        for (int i = 0; i < 14; i++) {
            all.append(' ').append(x.told(0, INTS, i, 1, 0)).append(' ').append(x.told(0, INTS, i, 1, 1));
            all.append(' ').append(x.told(1, BYTES, i, 1, 0)).append(' ').append(x.told(1, BYTES, i, 1, 1));
        }
        for (int sheet = 0; sheet < 4; sheet++) {
            all.append(" sheet ").append(x.drop(sheet));
        }
        all.append(" draw ").append(x.seed(5)).append(" tape ").append(x.type(' ')).append(' ').append(x.work(3));
        for (int left = x.undo(); left != NONE; left = x.undo()) {
            all.append(" undone ").append(left).append(' ').append(x.count(0)).append(' ').append(x.seed(6));
            seriesOf(x, all);
        }
        all.append(" image ").append(x.restore()).append(' ').append(x.count(0)).append(' ').append(x.count(8));
        seriesOf(x, all);
        return all.append(x.undo()).append(x.count(0)).append(x.seed(7)).toString();
    }

    private void changesNothing(String what, int refusal, Ask call) {
        EtaSeries x = rich("(1/2)", "1+");
        due(what, call.of(x), refusal);
        due(what + " changes nothing", view(x).equals(view(rich("(1/2)", "1+"))) ? 1 : 0, 1);
    }

    private static final String NOTHING = "What is refused changes nothing, but as told.";

    private void changesNothingInSeries() {
        terms(2, NOTHING, () -> {
            changesNothing("BAD", BAD, x -> x.make(4, ONE, 0));
            changesNothing("BAD", BAD, x -> x.make(0, ONE, 1));
            changesNothing("BAD", BAD, x -> x.make(3, EULER, 10));
        });
        terms(3, NOTHING, () -> {
            changesNothing("BAD", BAD, x -> x.join(0, 4, 0, 1));
            changesNothing("NULL", NULL, x -> x.join(0, PLUS, 0, 3));
            changesNothing("ROOT", ROOT, x -> x.join(0, OVER, 0, 1));
            changesNothing("WIDE", WIDE, x -> x.join(0, PLUS, 2, 2));
        });
        terms(4, NOTHING, () -> {
            changesNothing("BAD", BAD, x -> x.change(0, CUT, 6));
            changesNothing("NULL", NULL, x -> x.change(3, UP, 1));
            changesNothing("NOT", NOT, x -> x.change(0, PART, 65));
            changesNothing("WIDE", WIDE, x -> x.change(2, FOLD, 2));
            changesNothing("WIDE", WIDE, x -> x.change(2, POWER, 2));
        });
        terms(5, NOTHING, () -> {
            changesNothing("BAD", BAD, x -> x.out(4));
            changesNothing("NULL", NULL, x -> x.out(3));
        });
        terms(6, NOTHING, () -> {
            changesNothing("BAD", BAD, x -> x.length(41));
            changesNothing("BAD", BAD, x -> x.length(3));
            changesNothing("NOT", NOT, x -> x.length(5));
        });
        terms(7, NOTHING, () -> {
            changesNothing("BAD", BAD, x -> x.type(127));
            EtaSeries x = rich("(1/2)", "1+".repeat(30));
            due("FULL", x.type('1'), FULL);
            due("changes nothing", view(x).equals(view(rich("(1/2)", "1+".repeat(30)))) ? 1 : 0, 1);
        });
        terms(8, NOTHING, () -> {
            changesNothing("BAD", BAD, x -> x.work(4));
            changesNothing("BAD", BAD, x -> x.work(-1));
        });
        terms(9, NOTHING, () -> {
            changesNothing("BAD", BAD, x -> x.drift(0));
            changesNothing("BAD", BAD, x -> x.drift(41));
        });
        terms(10, NOTHING, () -> {
            EtaSeries x = new EtaSeries();
            x.seed(9);
            due("NONE", x.undo(), NONE);
            due("draw", x.seed(1), 9);
        });
        terms(11, NOTHING, () -> changesNothing("BAD", BAD, x -> x.seed(-1)));
    }

    private void changesNothingInLooking() {
        terms(12, NOTHING, () -> {
            changesNothing("BAD", BAD, x -> x.term(0, 5));
            changesNothing("NULL", NULL, x -> x.term(3, 0));
        });
        terms(13, NOTHING, () -> changesNothing("BAD", BAD, x -> x.count(9)));
        terms(14, NOTHING, () -> {
            changesNothing("BAD", BAD, x -> x.first(0, 4));
            changesNothing("NULL", NULL, x -> x.first(0, 3));
        });
        terms(15, NOTHING, () -> {
            changesNothing("BAD", BAD, x -> x.fits(0, 9, 0, 2, 0));
            changesNothing("NULL", NULL, x -> x.fits(3, 1, 0, 2, 0));
        });
        terms(16, NOTHING, () -> {
            changesNothing("BAD", BAD, x -> x.found(0, 9, 0));
            changesNothing("NULL", NULL, x -> x.found(3, 1, 0));
            changesNothing("NONE", NONE, x -> x.found(0, 8, 0));
        });
        terms(17, NOTHING, () -> {
            changesNothing("BAD", BAD, x -> x.guess(0, 6, 0, 0));
            changesNothing("NULL", NULL, x -> x.guess(3, 1, 0, 0));
        });
        terms(19, NOTHING, () -> {
            EtaSeries x = of("5");
            x.seed(9);
            due("NONE", x.restore(), NONE);
            due("term", x.term(0, 0), 5);
            due("undone", x.count(8), 1);
            due("draw", x.seed(1), 9);
        });
    }

    private void changesNothingInSheets() {
        terms(20, NOTHING, () -> {
            changesNothing("BAD", BAD, x -> x.told(0, INTS, 0, 7, 0));
            changesNothing("NULL", NULL, x -> x.told(3, INTS, 0, 1, 0));
            changesNothing("CAST", CAST, x -> x.told(0, LONGS, 0, 1, 0));
            changesNothing("INDEX", INDEX, x -> x.told(0, INTS, 11, 1, 0));
            changesNothing("NOT", NOT, x -> x.told(1, BYTES, 12, 1, 0));
        });
        terms(21, NOTHING, () -> {
            changesNothing("BAD", BAD, x -> x.quotient(0, 0, INTS, 0, 0));
            changesNothing("NULL", NULL, x -> x.quotient(0, 3, INTS, 0, 1));
            changesNothing("CAST", CAST, x -> x.quotient(0, 0, LONGS, 0, 1));
            changesNothing("INDEX", INDEX, x -> x.quotient(0, 0, INTS, 11, 1));
            changesNothing("NOT", NOT, x -> x.quotient(0, 1, BYTES, 12, 1));
            EtaSeries x = rich("(1/2)", "1+");
            EtaSeries y = rich("(1/2)", "1+");
            x.length(40);
            y.length(40);
            due("WIDE", x.quotient(0, 1, BYTES, 0, 6), WIDE);
            due("WIDE changes nothing", view(x).equals(view(y)) ? 1 : 0, 1);
        });
        terms(22, NOTHING, () -> {
            changesNothing("BAD", BAD, x -> x.wrought(0, 1, 0, INTS, 0, 13));
            changesNothing("NULL", NULL, x -> x.wrought(0, 1, 3, INTS, 0, 1));
            changesNothing("CAST", CAST, x -> x.wrought(0, 1, 0, LONGS, 0, 1));
            changesNothing("INDEX", INDEX, x -> x.wrought(0, 1, 0, INTS, 12, 1));
            changesNothing("NOT", NOT, x -> x.wrought(0, 3, 0, INTS, 0, 1));
        });
        terms(23, NOTHING, () -> {
            changesNothing("BAD", BAD, x -> x.film(0, 4, INTS, 0));
            changesNothing("NOT", NOT, x -> x.film(3, 0, INTS, 0));
            changesNothing("NULL", NULL, x -> x.film(0, 3, INTS, 0));
            changesNothing("CAST", CAST, x -> x.film(0, 0, LONGS, 0));
            changesNothing("INDEX", INDEX, x -> x.film(0, 0, INTS, 8));
            changesNothing("INDEX", INDEX, x -> x.film(0, 0, INTS, -1));
        });
        terms(24, NOTHING, () -> {
            changesNothing("BAD", BAD, x -> x.sheet(0, INTS, 41));
            changesNothing("BAD", BAD, x -> x.sheet(0, 4, 1));
            changesNothing("SIZE", SIZE, x -> x.sheet(0, INTS, -1));
        });
        terms(25, NOTHING, () -> {
            changesNothing("BAD", BAD, x -> x.drop(4));
            changesNothing("NULL", NULL, x -> x.drop(3));
        });
        terms(26, NOTHING, () -> {
            changesNothing("BAD", BAD, x -> x.item(0, 4, 0, 5));
            changesNothing("NULL", NULL, x -> x.item(3, INTS, 0, 5));
            changesNothing("CAST", CAST, x -> x.item(0, LONGS, 0, 5));
            changesNothing("INDEX", INDEX, x -> x.item(0, INTS, 12, 5));
            changesNothing("INDEX", INDEX, x -> x.item(0, INTS, -1, 5));
        });
        terms(27, NOTHING, () -> {
            changesNothing("BAD", BAD, x -> x.copy(0, 0, 4, 0, 1));
            changesNothing("NULL", NULL, x -> x.copy(0, 0, 3, 0, 1));
            changesNothing("CAST", CAST, x -> x.copy(0, 0, 1, 0, 1));
            changesNothing("INDEX", INDEX, x -> x.copy(0, 0, 0, 1, 12));
            changesNothing("INDEX", INDEX, x -> x.copy(0, 1, 0, 0, 12));
            changesNothing("INDEX", INDEX, x -> x.copy(0, 1, 0, 0, -1));
        });
    }

    /** A text that is refused takes THE TAPE with it, and one that breaks tells WHY; nothing else. */
    private void changesButAsTold() {
        terms(8, NOTHING, () -> {
            String[][] texts = {{"1+", "(1/2)"}, {"10^8+1", "10^8+1"}, {"1/((2))", "1/((2))"}};
            int[] refusals = {FAULT - 2, WIDE, ROOT};
            for (int k = 0; k < texts.length; k++) {
                EtaSeries x = rich("(1/2)", texts[k][0]);
                due(texts[k][0], x.work(0), refusals[k]);
                due(texts[k][0] + " changes no more", view(x).equals(view(rich(texts[k][1], ""))) ? 1 : 0, 1);
            }
        });
    }

    private void sets() {
        String quote = "Sets are bits.";
        terms(13, quote, () -> {
            for (int set = 0; set < 16; set++) {
                EtaSeries x = new EtaSeries();
                for (int k = 0; k < 4; k++) {
                    if ((set >> k & 1) == 1) {
                        x.make(k, ONE, 0);
                    }
                }
                due("set", x.count(1), set);
            }
        });
        terms(9, quote, () -> {
            // seeds whose next turn makes series 0, 1, 2, 3
            int[] seeds = {2088216195, 1742513795, 1396811395, 1051108995};
            for (int k = 0; k < 4; k++) {
                EtaSeries x = new EtaSeries();
                x.seed(seeds[k]);
                due("series " + k, x.drift(1), 1 << k);
                x.make(0, ONE, 0);
                x.seed(seeds[k]);
                due("series " + k + " and 0", x.drift(1), 1 << k | 1);
            }
        });
        terms(22, quote, () -> {
            // first terms of two series, what a row tells, the acts that fit
            int[][] cases = {{2, 1, 3, 1}, {2, 1, 1, 2}, {2, 1, 2, 12}, {2, 1, 4, 0}, {3, 0, 3, 3}, {0, 0, 0, 7},
                {2, 2, 4, 5}, {2, 2, 0, 2}, {0, 1, 0, 12}, {5, -1, -5, 12}, {3, 4, 12, 4}, {0, 5, 0, 4}};
            for (int[] c : cases) {
                EtaSeries x = of("0+" + c[0], c[1] < 0 ? "0-1" : "0+" + c[1]);
                row(x, 0, BYTES, c[2]);
                due(c[0] + " and " + c[1] + " to " + c[2], x.wrought(0, 1, 0, BYTES, 0, 1), c[3]);
            }
        });
    }
}
