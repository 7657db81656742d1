/** Series: what they are, how they are made, joined and changed (promises 1 to 6, 12, 13). */
final class SeriesEdges extends Edges {
    private static final int[] LENGTHS = {4, 24, 40};

    SeriesEdges(Sentences doc) {
        super(doc);
    }

    @Override
    void all() {
        fourSeries();
        missing();
        oneToForty();
        theLength();
        kinds();
        joined();
        joinedWide();
        changed();
        changedToPart();
        changedToPower();
        changedWide();
        promise1();
        promise2();
        promise3();
        promise4();
        promises5And6();
        promises12And13();
    }

    private void fourSeries() {
        String quote = "SERIES 0 .. 3";
        terms(2, quote, () -> four("make", (x, v) -> x.make(v, ONE, 0)));
        terms(3, quote, () -> {
            four("join to", (x, v) -> x.join(v, PLUS, 0, 1));
            four("join one", (x, v) -> x.join(0, PLUS, v, 1));
            four("join two", (x, v) -> x.join(0, PLUS, 0, v));
        });
        terms(4, quote, () -> four("change", (x, v) -> x.change(v, UP, 1)));
        terms(5, quote, () -> four("out", EtaSeries::out));
        terms(8, quote, () -> four("work", (x, v) -> {
            x.type('1');
            return x.work(v);
        }));
        terms(12, quote, () -> four("term", (x, v) -> x.term(v, 0)));
        terms(14, quote, () -> {
            four("first of", (x, v) -> x.first(v, 0));
            four("first and", (x, v) -> x.first(0, v));
        });
        terms(15, quote, () -> four("fits", (x, v) -> x.fits(v, 1, 0, 2, 0)));
        terms(16, quote, () -> four("found", (x, v) -> x.found(v, 1, 0)));
        terms(17, quote, () -> four("guess", (x, v) -> x.guess(v, 1, 1, 0)));
        terms(21, quote, () -> four("quotient", (x, v) -> x.quotient(v, 0, INTS, 0, 1)));
        terms(22, quote, () -> {
            four("wrought one", (x, v) -> x.wrought(v, 0, 0, INTS, 0, 1));
            four("wrought two", (x, v) -> x.wrought(0, v, 0, INTS, 0, 1));
        });
        terms(23, quote, () -> four("film", (x, v) -> x.film(v, 0, INTS, 0)));
    }

    /** A call is refused of each series at first, and of one that is out. */
    private void missing(String what, int refusal, AskBy call) {
        for (int s = 0; s < 4; s++) {
            EtaSeries x = new EtaSeries();
            x.sheet(0, INTS, 40);
            due(what + " of " + s + " at first", call.of(x, s), refusal);
            EtaSeries y = full();
            y.out(s);
            due(what + " of " + s + " that is out", call.of(y, s), refusal);
        }
    }

    private void missing() {
        String quote = "are missing (at first)";
        terms(1, quote, () -> {
            EtaSeries x = new EtaSeries();
            due("set", x.count(1), 0);
            for (int s = 0; s < 4; s++) {
                due("terms of " + s, x.count(2 + s), 0);
            }
        });
        terms(3, quote, () -> {
            missing("join of", NULL, (x, s) -> x.join(0, PLUS, s, s));
            missing("join one", NULL, (x, s) -> x.join(0, LESS, s, (s + 1) % 4));
            missing("join two", NULL, (x, s) -> x.join(0, TIMES, (s + 1) % 4, s));
        });
        terms(4, quote, () -> {
            int[] v = {0, 1, 0, 10, 1, 0, 0};
            for (int act = UP; act <= FOLD; act++) {
                int of = act;
                missing("change " + act, NULL, (x, s) -> x.change(s, of, v[of]));
            }
        });
        terms(5, quote, () -> missing("out", NULL, EtaSeries::out));
        terms(12, quote, () -> missing("term", NULL, (x, s) -> x.term(s, 0)));
        terms(13, quote, () -> missing("count", 0, (x, s) -> x.count(2 + s)));
        terms(14, quote, () -> {
            missing("first of", NULL, (x, s) -> x.first(s, (s + 1) % 4));
            missing("first and", NULL, (x, s) -> x.first((s + 1) % 4, s));
            missing("first of it and itself", NULL, (x, s) -> x.first(s, s));
        });
        terms(15, quote, () -> missing("fits", NULL, (x, s) -> x.fits(s, 8, 7, 9, 1)));
        terms(16, quote, () -> missing("found", NULL, (x, s) -> x.found(s, 8, 7)));
        terms(17, quote, () -> missing("guess", NULL, (x, s) -> x.guess(s, 0, 0, 1)));
        terms(22, quote, () -> {
            missing("wrought of", NOT, (x, s) -> x.wrought(s, (s + 1) % 4, 0, INTS, 0, 1));
            missing("wrought and", NOT, (x, s) -> x.wrought((s + 1) % 4, s, 0, INTS, 0, 1));
        });
        terms(23, quote, () -> missing("film", NOT, (x, s) -> x.film(s, 0, INTS, 0)));
    }

    /** Series 0 has one term, 6, series 1 has 40: what 1 / EULER of 1 begins with. */
    private static EtaSeries shortAndLong() {
        EtaSeries x = of(40, "6", "1/e(1)");
        x.change(0, CUT, 1);
        x.sheet(0, INTS, 40);
        return x;
    }

    private void oneToForty() {
        String quote = "have 1 to 40 TERMS: whole numbers, that of q to the 0, 1, ..";
        terms(2, quote, () -> {
            EtaSeries x = of(40, "1");
            x.make(0, Q, 0);
            sparse("q to the 0", x, 0, 40, 0, 1);
            x.make(0, Q, 1);
            sparse("q to the 1", x, 0, 40, 1, 1);
            x.make(0, Q, 39);
            sparse("q to the 39", x, 0, 40, 39, 1);
        });
        terms(3, quote, () -> {
            EtaSeries x = shortAndLong();
            due("1 and 40", x.join(2, PLUS, 0, 1), 1);
            series("1 and 40", x, 2, 7);
            due("1 and 1", x.join(2, TIMES, 0, 0), 1);
            series("1 and 1", x, 2, 36);
            due("1 over 40", x.join(2, OVER, 0, 1), 1);
            series("1 over 40", x, 2, 6);
            due("40 and 40", x.join(2, LESS, 1, 1), 40);
            sparse("40 and 40", x, 2, 40);
            due("40 over 40", x.join(2, OVER, 1, 1), 40);
            sparse("40 over 40", x, 2, 40, 0, 1);
        });
        terms(4, quote, () -> {
            EtaSeries x = shortAndLong();
            due("STRETCHED", x.change(0, STRETCHED, 8), 1);
            due("TURNED", x.change(0, TURNED, 0), 1);
            due("PART", x.change(0, PART, 80), 1);
            due("CUT", x.change(0, CUT, 1), 1);
            due("POWER", x.change(0, POWER, 2), 1);
            due("FOLD", x.change(0, FOLD, -1), 1);
            series("of one term", x, 0, -36);
            due("UP", x.change(0, UP, 1), 1);
            series("of one term", x, 0, 0);
            due("PART of 40", x.change(1, PART, 10), 40);
            due("CUT of 40", x.change(1, CUT, 40), 40);
            due("UP of 40", x.change(1, UP, 9), 40);
            due("the last", x.term(1, 39), 5604);
        });
        terms(5, quote, () -> {
            EtaSeries x = shortAndLong();
            due("of one term", x.out(0), 1);
            due("of 40", x.out(1), 40);
        });
        terms(12, quote, () -> {
            EtaSeries x = shortAndLong();
            due("the only one", x.term(0, 0), 6);
            due("none behind", x.term(0, 1), BAD);
            due("the 40th", x.term(1, 39), 31185);
            due("none behind", x.term(1, 40), BAD);
        });
        terms(13, quote, () -> {
            EtaSeries x = shortAndLong();
            due("one", x.count(2), 1);
            due("40", x.count(3), 40);
            due("one term is not missing", x.count(1), 3);
        });
        terms(14, quote, () -> {
            EtaSeries x = shortAndLong();
            due("differ at the only one", x.first(0, 1), 0);
            work(x, 2, "1/e(1)+q(39)");
            due("differ at the last", x.first(1, 2), 39);
            x.change(2, CUT, 1);
            due("don't differ at the only one", x.first(2, 1), NONE);
        });
        terms(15, quote, () -> {
            EtaSeries x = shortAndLong();
            due("6 by 3", x.fits(0, 8, 0, 3, 0), 1);
            due("6 by 4", x.fits(0, 1, 0, 4, 1), 0);
            work(x, 1, "2+q(39)");
            due("fails at the last", x.fits(1, 1, 0, 2, 1), 39);
            due("fails at the last", x.fits(1, 8, 7, 2, 1), 39);
        });
        terms(16, quote, () -> {
            EtaSeries x = shortAndLong();
            due("no three", x.found(0, 1, 0), NONE);
            due("40", x.found(1, 1, 0), 5405);
        });
        terms(17, quote, () -> {
            EtaSeries x = shortAndLong();
            due("1 of 1", x.guess(0, 1, 3, 0), 7);
            due("2 of 1", x.guess(0, 2, 3, 0), BAD);
            due("6 of 40", x.guess(1, 6, 10, 0), 0);
        });
        terms(22, quote, () -> {
            EtaSeries x = shortAndLong();
            x.item(0, INTS, 0, 7);
            due("1 of 1", x.wrought(0, 1, 0, INTS, 0, 1), 1 << PLUS);
            due("2 of 1", x.wrought(0, 1, 0, INTS, 0, 2), 0);
        });
        terms(23, quote, () -> {
            EtaSeries x = shortAndLong();
            due("one at the last item", x.film(0, 0, INTS, 39), 1);
            items("one", x, 0, INTS, 38, 0, 6);
            due("40", x.film(1, 0, INTS, 0), 40);
            due("40 from 1 on", x.film(1, 0, INTS, 1), INDEX);
        });
    }

    private void theLength() {
        String quote = "THE LENGTH (4 .. 40; 24 at first) is told.";
        terms(1, quote, () -> due("at first", new EtaSeries().count(0), 24));
        terms(6, quote, () -> {
            EtaSeries x = new EtaSeries();
            due("4", x.length(4), 24);
            due("40", x.length(40), 4);
            due("3", x.length(3), BAD);
            due("41", x.length(41), BAD);
            due("it is so still", x.count(0), 40);
        });
        terms(2, quote, () -> {
            for (int length : LENGTHS) {
                EtaSeries x = of(length);
                due("make " + length, x.make(0, ONE, 0), length);
                x.length(9);
                due("made ahead", x.count(2), length);
            }
        });
        terms(8, quote, () -> {
            for (int length : LENGTHS) {
                due("work " + length, work(of(length), 0, "t(1)^2/e(1)"), length);
                due("number " + length, work(of(length), 0, "7"), length);
            }
        });
        terms(9, quote, () -> {
            for (int length : LENGTHS) {
                EtaSeries x = of(length);
                x.drift(1);
                due("drift " + length, x.count(4), length);
            }
        });
        terms(21, quote, () -> {
            for (int length : LENGTHS) {
                EtaSeries x = of(length);
                row(x, 0, INTS, 1, 1);
                due("quotient " + length, x.quotient(0, 0, INTS, 0, 1), length);
            }
        });
    }

    /** Made by make and told by a text, at a length: it is 0 but at pairs of place and term. */
    private void kind(int what, int d, String text, int length, int... pairs) {
        EtaSeries x = of(length, "5", text);
        due(text + " made", x.make(0, what, d), length);
        sparse(text + " made to " + length, x, 0, length, pairs);
        sparse(text + " told to " + length, x, 1, length, pairs);
    }

    private void kinds() {
        terms(2, "ONE: 1, then nothing.", () -> {
            for (int length : LENGTHS) {
                kind(ONE, 0, "1", length, 0, 1);
            }
        });
        terms(2, "THETA of d (1 .. 9): 1, and 2 at d k k for each k from 1 on.", () -> {
            kind(THETA, 1, "t(1)", 4, 0, 1, 1, 2);
            kind(THETA, 1, "t(1)", 40, 0, 1, 1, 2, 4, 2, 9, 2, 16, 2, 25, 2, 36, 2);
            kind(THETA, 9, "t(9)", 4, 0, 1);
            kind(THETA, 9, "t(9)", 40, 0, 1, 9, 2, 36, 2);
            bad("THETA of", (x, d) -> x.make(0, THETA, d), -1, 0, 10, LOW, HIGH);
        });
        terms(2, "PSI of d: 1 at d k (k and 1) / 2 for each k from 0 on.", () -> {
            kind(PSI, 1, "s(1)", 4, 0, 1, 1, 1, 3, 1);
            kind(PSI, 1, "s(1)", 40, 0, 1, 1, 1, 3, 1, 6, 1, 10, 1, 15, 1, 21, 1, 28, 1, 36, 1);
            kind(PSI, 9, "s(9)", 4, 0, 1);
            kind(PSI, 9, "s(9)", 40, 0, 1, 9, 1, 27, 1);
            bad("PSI of", (x, d) -> x.make(0, PSI, d), -1, 0, 10, LOW, HIGH);
        });
        terms(2, "EULER of d: what comes of 1 less q to the d, 1 less q to the 2 d, .., all multiplied.", () -> {
            for (int length : LENGTHS) {
                for (int d = 1; d <= 9; d++) {
                    euler(d, length);
                }
            }
            bad("EULER of", (x, d) -> x.make(0, EULER, d), -1, 0, 10, LOW, HIGH);
        });
        terms(2, "Q of d (0 .. 39): 1 at d alone.", () -> {
            kind(Q, 0, "q(0)", 4, 0, 1);
            kind(Q, 3, "q(3)", 4, 3, 1);
            kind(Q, 4, "q(4)", 4);
            kind(Q, 39, "q(39)", 24);
            kind(Q, 39, "q(39)", 40, 39, 1);
            bad("Q of", (x, d) -> x.make(0, Q, d), -1, 40, LOW, HIGH);
            EtaSeries x = new EtaSeries();
            x.make(0, Q, 39);
            due("0s are terms", x.count(1), 1);
        });
        terms(2, "All have THE LENGTH.", () -> {
            int[] d = {0, 9, 9, 9, 39};
            for (int length : LENGTHS) {
                for (int what = ONE; what <= Q; what++) {
                    due(what + " of " + length, of(length).make(3, what, d[what]), length);
                }
            }
        });
    }

    private void euler(int d, int length) {
        int[] want = new int[length];
        want[0] = 1;
        for (int k = d; k < length; k += d) {
            for (int j = length - 1; j >= k; j--) {
                want[j] -= want[j - k];
            }
        }
        EtaSeries x = of(length, "5", "e(" + d + ")");
        x.make(0, EULER, d);
        series("EULER of " + d, x, 0, want);
        series("e(" + d + ")", x, 1, want);
    }

    private void joined() {
        terms(3, "Of two SERIES what is made has as many TERMS as the shorter one", () -> {
            for (int act = PLUS; act <= OVER; act++) {
                EtaSeries x = of("t(1)", "t(1)");
                x.change(1, CUT, 7);
                due("the second is shorter", x.join(2, act, 0, 1), 7);
                due("the first is shorter", x.join(2, act, 1, 0), 7);
                due("the second is as long", x.join(2, act, 0, 0), 24);
                due("onto the longer one", x.join(0, act, 0, 1), 7);
            }
        });
        terms(3, "0 PLUS, 1 LESS, 2 TIMES, 3 OVER", () -> {
            EtaSeries x = of(4, "5+7*q(1)", "1+2*q(2)");
            x.join(2, 0, 0, 1);
            series("PLUS", x, 2, 6, 7, 2, 0);
            x.join(2, 1, 0, 1);
            series("LESS", x, 2, 4, 7, -2, 0);
            x.join(2, 2, 0, 1);
            series("TIMES", x, 2, 5, 7, 10, 14);
            x.join(2, 3, 0, 1);
            series("OVER", x, 2, 5, 7, -10, -14);
            four("act", (y, v) -> y.join(0, v, 1, 2));
        });
        terms(3, "3 OVER (the SERIES that, TIMES the second, is the first; the second must begin with 1 or -1: ROOT)",
            () -> {
                String[] seconds = {"t(1)-1", "2*t(1)", "0-2*t(1)", "0*t(1)", "10^8+q(1)", "q(1)"};
                for (String second : seconds) {
                    due(second, of("e(1)", second).join(2, OVER, 0, 1), ROOT);
                }
                for (String second : new String[] {"t(1)", "0-t(1)", "1", "0-1", "s(1)-99*q(23)"}) {
                    EtaSeries x = of("e(1)", second);
                    due(second, x.join(2, OVER, 0, 1), 24);
                    x.join(3, TIMES, 2, 1);
                    due(second + ", taken back", x.first(3, 0), NONE);
                }
                EtaSeries x = of("e(1)", "0-1");
                x.join(2, OVER, 0, 1);
                due("over -1", x.term(2, 1), 1);
            });
        String root = "ROOT -1000006 (what is divided by does not begin with 1 or -1)";
        terms(22, root, () -> {
            EtaSeries x = of("4", "2");
            row(x, 0, INTS, 2);
            due("OVER is none of the acts", x.wrought(0, 1, 0, INTS, 0, 1), 1 << LESS);
        });
        terms(8, root, () -> {
            due("0", work(of(), 0, "1/0"), ROOT);
            due("2", work(of(), 0, "4/2"), ROOT);
            due("-2", work(of(), 0, "4/(0-2)"), ROOT);
            due("-1", work(of(), 0, "4/(0-1)"), 24);
            due("the letter behind it begins with 1", work(of(), 0, "4/(1+2*q(1))"), 24);
        });
    }

    private static final String ABOVE = "WIDE -1000005 (a term would be above 100000000 without its sign)";

    private void joinedWide() {
        terms(3, ABOVE, () -> {
            EtaSeries x = of("10^8", "1", "10^8-1");
            due("PLUS to 100000000", x.join(3, PLUS, 2, 1), 24);
            due("it is", x.term(3, 0), 100000000);
            due("PLUS to 100000001", x.join(3, PLUS, 0, 1), WIDE);
            due("LESS to 99999999", x.join(3, LESS, 0, 1), 24);
            x.change(0, FOLD, -1);
            x.change(2, FOLD, -1);
            due("LESS to -100000000", x.join(3, LESS, 2, 1), 24);
            due("it is", x.term(3, 0), -100000000);
            due("LESS to -100000001", x.join(3, LESS, 0, 1), WIDE);
            due("PLUS to -200000000", x.join(3, PLUS, 0, 0), WIDE);
            EtaSeries y = of("10^4", number(5882353), "17", "0-17");
            due("TIMES to 100000000", y.join(0, TIMES, 0, 0), 24);
            due("TIMES to 100000001", y.join(0, TIMES, 1, 2), WIDE);
            due("TIMES to -100000001", y.join(0, TIMES, 1, 3), WIDE);
            due("TIMES far too great", y.join(0, TIMES, 0, 0), WIDE);
            EtaSeries z = of("10^8*q(1)", "1+10^8*q(1)", "1-q(1)", "0-1+q(1)");
            due("OVER to 100000000", z.join(0, OVER, 0, 2), 24);
            due("it is", z.term(0, 23), 100000000);
            due("OVER to 100000001", z.join(0, OVER, 1, 2), WIDE);
            due("OVER to -100000001", z.join(0, OVER, 1, 3), WIDE);
        });
        terms(3, "of a sum of products the whole sum alone)", () -> {
            EtaSeries x = of("10^8+10^8*q(1)", "1-q(1)", "10^8");
            due("TIMES", x.join(3, TIMES, 0, 1), 24);
            sparse("TIMES", x, 3, 24, 0, 100000000, 2, -100000000);
            EtaSeries y = of(4, "10^8+10^8*q(1)", "10^8-10^8*q(1)");
            y.change(0, UP, 2);
            y.change(1, UP, 1);
            due("the whole sum is too great, at the last term", y.join(2, TIMES, 0, 1), WIDE);
            EtaSeries z = of(4, "1+10^8*q(1)", "1+10^8*q(1)");
            due("OVER", z.join(2, OVER, 0, 1), 4);
            series("OVER", z, 2, 1, 0, 0, 0);
            // at q to the 3 stands 10^12 less 10^12
            EtaSeries w = of(4, "1+2*10^4*q(1)+10^8*q(2)", "1+10^4*q(1)-10^8*q(2)");
            due("OVER", w.join(2, OVER, 0, 1), 4);
            series("OVER", w, 2, 1, 10000, 100000000, 0);
        });
        terms(22, ABOVE, () -> {
            EtaSeries x = of("10^8-1", "1", "10^8");
            row(x, 0, INTS, 100000000, 100000001);
            due("100000000", x.wrought(0, 1, 0, INTS, 0, 1), 1 << PLUS);
            due("100000001", x.wrought(2, 1, 0, INTS, 1, 1), 0);
        });
    }

    private void changed() {
        terms(4, "0 UP v (0 .. 9): all stand v later, 0s ahead, as many TERMS as ahead", () -> {
            EtaSeries x = of(12, "1+2*q(1)+3*q(2)+4*q(11)");
            due("0", x.change(0, UP, 0), 12);
            sparse("0", x, 0, 12, 0, 1, 1, 2, 2, 3, 11, 4);
            due("9", x.change(0, UP, 9), 12);
            sparse("9", x, 0, 12, 9, 1, 10, 2, 11, 3);
            due("1", x.change(0, UP, 1), 12);
            sparse("1", x, 0, 12, 10, 1, 11, 2);
            x.change(0, TURNED, 0);
            x.change(0, PART, 21);
            due("all fall off", x.change(0, UP, 6), 6);
            sparse("all fall off", x, 0, 6);
            bad("UP", (y, v) -> y.change(0, UP, v), -1, 10, LOW, HIGH);
        });
        terms(4, "1 STRETCHED v (1 .. 8): q becomes q to the v, as many TERMS", () -> {
            EtaSeries x = of(10, "1+2*q(1)+3*q(2)+4*q(9)", "1+2*q(1)+3*q(2)+4*q(9)", "1+2*q(1)+3*q(2)");
            due("1", x.change(0, STRETCHED, 1), 10);
            sparse("1", x, 0, 10, 0, 1, 1, 2, 2, 3, 9, 4);
            due("8", x.change(0, STRETCHED, 8), 10);
            sparse("8", x, 0, 10, 0, 1, 8, 2);
            due("4", x.change(1, STRETCHED, 4), 10);
            sparse("4", x, 1, 10, 0, 1, 4, 2, 8, 3);
            x.change(2, CUT, 8);
            due("8 of 8", x.change(2, STRETCHED, 8), 8);
            sparse("8 of 8", x, 2, 8, 0, 1);
            bad("STRETCHED", (y, v) -> y.change(0, STRETCHED, v), -1, 0, 9, LOW, HIGH);
        });
        terms(4, "2 TURNED: TERMS at odd places get the other sign (v 0)", () -> {
            EtaSeries x = of(4, "10^8+10^8*q(1)-5*q(2)-10^8*q(3)");
            due("TURNED", x.change(0, TURNED, 0), 4);
            series("TURNED", x, 0, 100000000, -100000000, -5, 100000000);
            bad("TURNED", (y, v) -> y.change(0, TURNED, v), -1, 1, LOW, HIGH);
        });
        terms(4, "4 CUT v (1 to as many as there are): its first v TERMS", () -> {
            EtaSeries x = of("1/e(1)");
            due("as many", x.change(0, CUT, 24), 24);
            due("one more", x.change(0, CUT, 25), BAD);
            due("one less", x.change(0, CUT, 23), 23);
            due("the last", x.term(0, 22), 1002);
            due("what there were", x.change(0, CUT, 24), BAD);
            due("1", x.change(0, CUT, 1), 1);
            series("1", x, 0, 1);
            due("2", x.change(0, CUT, 2), BAD);
            bad("CUT", (y, v) -> y.change(0, CUT, v), -1, 0, 25, 40, 41, LOW, HIGH);
        });
        terms(4, "6 FOLD v (-99 .. 99): each TERM v times.", () -> {
            EtaSeries x = of(4, "1-q(1)+2*q(3)");
            due("99", x.change(0, FOLD, 99), 4);
            series("99", x, 0, 99, -99, 0, 198);
            due("-99", x.change(0, FOLD, -99), 4);
            series("-99", x, 0, -9801, 9801, 0, -19602);
            due("0", x.change(0, FOLD, 0), 4);
            series("0", x, 0, 0, 0, 0, 0);
            bad("FOLD", (y, v) -> y.change(0, FOLD, v), -100, 100, LOW, HIGH);
        });
    }

    private void changedToPart() {
        terms(4, "3 PART v (10 m and r, m 1 .. 8, r less than m)", () -> {
            EtaSeries x = of("1/e(1)", "1/e(1)", "1/e(1)");
            due("1, 0", x.change(0, PART, 10), 24);
            due("8, 0", x.change(0, PART, 80), 3);
            series("8, 0", x, 0, 1, 22, 231);
            due("8, 7", x.change(1, PART, 87), 3);
            series("8, 7", x, 1, 15, 176, 1255);
            due("2, 1", x.change(2, PART, 21), 12);
            due("2, 1", x.term(2, 11), 1255);
            bad("PART", (y, v) -> y.change(0, PART, v), -1, -10, -21, 0, 1, 7, 9, 11, 22, 29, 33, 88, 89, 90, 91, 100,
                810, LOW, HIGH);
            for (int m = 1; m <= 8; m++) {
                for (int r = 0; r <= 9; r++) {
                    due("m " + m + " r " + r, full().change(0, PART, 10 * m + r) == BAD ? 1 : 0, r < m ? 0 : 1);
                }
            }
        });
        terms(4, "TERMS at r, r and m, .. alone, side by side (one at least: else NOT)", () -> {
            EtaSeries x = of("1+2*q(1)+3*q(2)+4*q(3)+5*q(4)");
            x.change(0, CUT, 5);
            due("none", x.change(0, PART, 65), NOT);
            due("none", x.change(0, PART, 87), NOT);
            x.image();
            due("the last alone", x.change(0, PART, 54), 1);
            series("the last alone", x, 0, 5);
            x.restore();
            due("the first and the last", x.change(0, PART, 40), 2);
            series("the first and the last", x, 0, 1, 5);
            x.restore();
            due("the first alone", x.change(0, PART, 50), 1);
            series("the first alone", x, 0, 1);
            due("of one", x.change(0, PART, 21), NOT);
            due("of one", x.change(0, PART, 20), 1);
        });
    }

    private void changedToPower() {
        terms(4, "5 POWER v (0 .. 8): v times itself multiplied (0: ONE, as many TERMS)", () -> {
            EtaSeries x = of("1+q(1)", "1+q(1)", "2+q(1)", "0");
            x.change(0, CUT, 11);
            due("8", x.change(0, POWER, 8), 11);
            series("8", x, 0, 1, 8, 28, 56, 70, 56, 28, 8, 1, 0, 0);
            x.change(1, CUT, 6);
            due("1", x.change(1, POWER, 1), 6);
            sparse("1", x, 1, 6, 0, 1, 1, 1);
            x.change(2, CUT, 3);
            due("0", x.change(2, POWER, 0), 3);
            series("0", x, 2, 1, 0, 0);
            due("0 to the 0", x.change(3, POWER, 0), 24);
            sparse("0 to the 0", x, 3, 24, 0, 1);
            bad("POWER", (y, v) -> y.change(0, POWER, v), -1, 9, LOW, HIGH);
        });
        terms(4, "WIDE: some TERM on the way would be too great (in POWER too: as they are multiplied one by one", () -> {
            EtaSeries x = of("10^5*q(8)", "10^5*q(8)", "10^8");
            due("to the 2", x.change(0, POWER, 2), WIDE);
            due("to the 3 all would be 0", x.change(0, POWER, 3), WIDE);
            x.change(1, CUT, 16);
            due("of 16 terms all is 0", x.change(1, POWER, 2), 16);
            sparse("of 16 terms all is 0", x, 1, 16);
            due("to the 0 is ONE", x.change(2, POWER, 0), 24);
        });
        terms(8, "WIDE: some TERM on the way would be too great (in POWER too: as they are multiplied one by one", () -> {
            due("to the 3 all would be 0", work(of(), 0, "(10^5*q(8))^3"), WIDE);
            due("behind the end", work(of(16), 0, "(10^5*q(8))^3"), 16);
            due("taken back by the next", work(of(), 0, "10^8*2-10^8"), WIDE);
        });
        terms(21, "WIDE: some TERM on the way would be too great (in POWER too: as they are multiplied one by one", () -> {
            EtaSeries x = of(17);
            row(x, 0, INTS, 1, -9, 1, 9);
            row(x, 1, INTS, 1, 9, 1, -9);
            due("ONE at the end, but not on the way", x.quotient(0, 0, INTS, 0, 2), WIDE);
            due("ONE at the end, and not great on the way", x.quotient(0, 1, INTS, 0, 2), 17);
            sparse("ONE", x, 0, 17, 0, 1);
            x.length(16);
            due("of 16 terms", x.quotient(0, 0, INTS, 0, 2), 16);
            sparse("ONE", x, 0, 16, 0, 1);
        });
    }

    private void changedWide() {
        terms(4, ABOVE, () -> {
            EtaSeries x = of("10^8", number(5882353), "10^4", "10^4+1");
            due("FOLD 1", x.change(0, FOLD, 1), 24);
            due("FOLD -1", x.change(0, FOLD, -1), 24);
            due("FOLD 2", x.change(0, FOLD, 2), WIDE);
            // 43 times 100000000 would be below 100000000 in 32 bits
            due("FOLD 43", x.change(0, FOLD, 43), WIDE);
            due("FOLD 99", x.change(0, FOLD, 99), WIDE);
            due("FOLD -99", x.change(0, FOLD, -99), WIDE);
            due("to 100000001", x.change(1, FOLD, 17), WIDE);
            due("to -100000001", x.change(1, FOLD, -17), WIDE);
            due("to 94117648", x.change(1, FOLD, 16), 24);
            due("POWER to 100020001", x.change(3, POWER, 2), WIDE);
            due("POWER to 100000000", x.change(2, POWER, 2), 24);
            due("it is", x.term(2, 0), 100000000);
            EtaSeries y = of("1+q(1)+50*10^6*q(2)", "1+q(1)+(50*10^6-1)*q(2)");
            y.change(0, CUT, 3);
            y.change(1, CUT, 3);
            due("POWER to 100000001", y.change(0, POWER, 2), WIDE);
            due("POWER to 99999999", y.change(1, POWER, 2), 3);
            series("POWER to 99999999", y, 1, 1, 2, 99999999);
        });
        terms(8, ABOVE, () -> {
            due("^", work(of(), 0, "10^8"), 24);
            due("^", work(of(4), 0, "(1+q(1)+50*10^6*q(2))^2"), WIDE);
            due("^", work(of(4), 0, "(1+q(1)+(50*10^6-1)*q(2))^2"), 4);
            due("+", work(of(), 0, "10^8+0"), 24);
            due("+", work(of(), 0, "10^8+1"), WIDE);
            due("-", work(of(), 0, "0-10^8"), 24);
            due("-", work(of(), 0, "0-10^8-1"), WIDE);
            due("*", work(of(), 0, "10^8*1"), 24);
            due("*", work(of(), 0, "17*(" + number(5882353) + ")"), WIDE);
            due("*", work(of(), 0, "17*(" + number(5882352) + ")"), 24);
            due("/", work(of(), 0, "10^8*q(1)/(1-q(1))"), 24);
            due("/", work(of(), 0, "(1+10^8*q(1))/(1-q(1))"), WIDE);
        });
        terms(21, ABOVE, () -> {
            // the first quotients of so many terms that pass 100000000, and the last ones that don't
            int[][] rows = {{16, 1, -9}, {11, 1, -9, 1, -9}, {14, 1, -9, 2, -9}, {34, 1, 9, 2, -9},
                {24, 1, 9, 1, 9, 1, 9}, {8, 1, 9, 1, 9, 1, 9, 1, 9, 1, 9, 1, 9}};
            for (int[] r : rows) {
                EtaSeries x = of(r[0]);
                x.sheet(0, BYTES, r.length - 1);
                for (int k = 1; k < r.length; k++) {
                    x.item(0, BYTES, k - 1, r[k]);
                }
                due(r[0] + " terms", x.quotient(0, 0, BYTES, 0, r.length / 2), r[0]);
                x.length(r[0] + 1);
                due(r[0] + 1 + " terms", x.quotient(0, 0, BYTES, 0, r.length / 2), WIDE);
            }
        });
    }

    private void promise1() {
        promise(1, "No series.", () -> {
            EtaSeries x = new EtaSeries();
            due("no series", x.count(1), 0);
            due("nothing to be undone", x.count(8), 0);
            due("nothing broke", x.count(6), NONE);
            due("nothing broke", x.count(7), NONE);
            due("no letter", x.type('1'), 1);
            due("no image", x.restore(), NONE);
            EtaSeries y = full();
            y.length(7);
            due("no other object's series", new EtaSeries().count(1), 0);
            due("no other object's length", new EtaSeries().count(0), 24);
        });
    }

    private void promise2() {
        promise(2, "(what 0 .. 4)", () -> bad("what", (x, v) -> x.make(0, v, 1), -1, 5, LOW, HIGH));
        promise(2, "ONE (d 0)", () -> {
            due("0", full().make(0, ONE, 0), 24);
            bad("d", (x, v) -> x.make(0, ONE, v), -1, 1, LOW, HIGH);
        });
        promise(2, "A SERIES becomes", () -> {
            EtaSeries x = of("5", "6", "7");
            x.make(1, ONE, 0);
            series("the one told alone", x, 0, of("5").term(0, 0), 0, 0, 0, 0, 0, 0, 0, 0, 0, 0, 0, 0, 0, 0, 0, 0, 0, 0,
                0, 0, 0, 0, 0);
            due("that one", x.term(1, 0), 1);
            due("not that one", x.term(2, 0), 7);
            due("what it was is gone", x.count(1), 7);
        });
        promise(2, "how many TERMS. BAD;", () -> {
            due("4", of(4).make(3, EULER, 9), 4);
            due("40", of(40).make(3, EULER, 1), 40);
            due("no kind", full().make(0, 5, 0), BAD);
            due("no series", full().make(4, ONE, 0), BAD);
            due("no d", full().make(0, PSI, 10), BAD);
        });
        promise(2, "WIDE", () -> {
            // no term of these kinds is above 2 without its sign, so that it never is
            for (int what = THETA; what <= EULER; what++) {
                for (int d = 1; d <= 9; d++) {
                    due("never " + what + " of " + d, of(40).make(0, what, d), 40);
                }
            }
        });
    }

    private void promise3() {
        promise(3, "(the same ones, too)", () -> {
            EtaSeries x = of(4, "1+3*q(1)", "1+2*q(1)");
            due("one and itself", x.join(2, PLUS, 0, 0), 4);
            series("one and itself", x, 2, 2, 6, 0, 0);
            due("one onto itself", x.join(0, TIMES, 0, 1), 4);
            series("one onto itself", x, 0, 1, 5, 6, 0);
            due("two onto itself", x.join(1, LESS, 0, 1), 4);
            series("two onto itself", x, 1, 0, 3, 6, 0);
            due("all three", x.join(0, OVER, 0, 0), 4);
            series("all three", x, 0, 1, 0, 0, 0);
            x.join(1, TIMES, 1, 1);
            series("all three", x, 1, 0, 0, 9, 36);
            x.join(1, LESS, 1, 1);
            series("all three", x, 1, 0, 0, 0, 0);
        });
        promise(3, "BAD;", () -> {
            bad("act", (x, v) -> x.join(0, v, 0, 0), -1, 4, LOW, HIGH);
            bad("to", (x, v) -> x.join(v, PLUS, 0, 0), -1, 4, LOW, HIGH);
        });
        promise(3, "NULL;", () -> {
            EtaSeries x = of("1");
            due("the second", x.join(0, PLUS, 0, 3), NULL);
            due("the first", x.join(0, PLUS, 3, 0), NULL);
            due("both", x.join(0, PLUS, 3, 3), NULL);
            due("what it becomes may be missing", x.join(3, PLUS, 0, 0), 24);
        });
        promise(3, "ROOT;", () -> {
            EtaSeries x = of("2", "1");
            due("OVER", x.join(2, OVER, 1, 0), ROOT);
            due("the first may begin with what it will", x.join(2, OVER, 0, 1), 24);
            due("TIMES", x.join(2, TIMES, 1, 0), 24);
        });
        promise(3, "WIDE.", () -> {
            EtaSeries x = of("10^8", "1+2*q(23)");
            due("at the last term", x.join(2, TIMES, 0, 1), WIDE);
            x.change(1, CUT, 23);
            due("behind the shorter one", x.join(2, TIMES, 0, 1), 23);
        });
    }

    private void promise4() {
        promise(4, "A SERIES is CHANGED: how many TERMS.", () -> {
            EtaSeries x = of("1/e(1)", "5");
            due("PART", x.change(0, PART, 54), 4);
            series("PART", x, 0, 5, 30, 135, 490);
            due("another one stays", x.term(1, 0), 5);
        });
        promise(4, "BAD;", () -> {
            bad("act", (x, v) -> x.change(0, v, 0), -1, 7, LOW, HIGH);
            bad("series", (x, v) -> x.change(v, UP, 0), -1, 4, LOW, HIGH);
        });
        promise(4, "NULL;", () -> due("missing", new EtaSeries().change(0, FOLD, 1), NULL));
        promise(4, "NOT;", () -> {
            EtaSeries x = of(4, "1");
            due("4 terms have none at 4", x.change(0, PART, 54), NOT);
            due("but at 3", x.change(0, PART, 53), 1);
        });
        promise(4, "WIDE.", () -> {
            EtaSeries x = of("1+10^8*q(23)");
            due("at the last term", x.change(0, FOLD, 2), WIDE);
            due("at the last term", x.change(0, POWER, 2), WIDE);
            x.change(0, CUT, 23);
            due("cut off", x.change(0, FOLD, 2), 23);
        });
    }

    private void promises5And6() {
        promise(5, "A SERIES is out: how many TERMS it had.", () -> {
            for (int length : LENGTHS) {
                EtaSeries x = of(length, "1", "2");
                due("out " + length, x.out(0), length);
                due("gone", x.count(2), 0);
                due("the other stays", x.count(1), 2);
            }
        });
        promise(5, "BAD;", () -> bad("series", EtaSeries::out, -1, 4, LOW, HIGH));
        promise(5, "NULL", () -> {
            EtaSeries x = of("1");
            x.out(0);
            due("out already", x.out(0), NULL);
            due("never there", x.out(3), NULL);
        });
        promise(6, "THE LENGTH becomes v: what it was.", () -> {
            EtaSeries x = new EtaSeries();
            due("4", x.length(4), 24);
            due("40", x.length(40), 4);
            due("39", x.length(39), 40);
            due("is", x.count(0), 39);
        });
        promise(6, "BAD;", () -> bad("length", EtaSeries::length, 3, 41, 0, -4, LOW, HIGH));
        promise(6, "NOT: it is so.", () -> {
            EtaSeries x = new EtaSeries();
            due("24", x.length(24), NOT);
            x.length(4);
            due("4", x.length(4), NOT);
            x.length(40);
            due("40", x.length(40), NOT);
            due("24 is not so", x.length(24), 40);
            due("nothing to undo of it", x.count(8), 3);
        });
    }

    private void promises12And13() {
        promise(12, "BAD: not so many, too", () -> {
            EtaSeries x = of("1/e(1)");
            due("the last", x.term(0, 23), 1255);
            due("one more", x.term(0, 24), BAD);
            due("40", x.term(0, 40), BAD);
            due("below", x.term(0, -1), BAD);
            due("lowest", x.term(0, LOW), BAD);
            due("highest", x.term(0, HIGH), BAD);
            x.length(40);
            due("THE LENGTH is not asked", x.term(0, 24), BAD);
            x.length(4);
            due("THE LENGTH is not asked", x.term(0, 23), 1255);
            due("no series", x.term(4, 0), BAD);
        });
        promise(12, "NULL", () -> due("missing", of("1").term(1, 0), NULL));
        promise(13, "0 THE LENGTH", () -> due("told", of(40).count(0), 40));
        promise(13, "1 SERIES that there are (a set)", () -> {
            EtaSeries x = new EtaSeries();
            x.make(3, ONE, 0);
            due("3", x.count(1), 8);
            x.make(0, ONE, 0);
            due("0 and 3", x.count(1), 9);
            x.out(3);
            due("0", x.count(1), 1);
        });
        promise(13, "2 to 5 TERMS of SERIES 0 to 3 (0: it is missing)", () -> {
            EtaSeries x = of("1", "1", "1", "1");
            for (int s = 0; s < 4; s++) {
                x.change(s, CUT, 20 + s);
            }
            for (int s = 0; s < 4; s++) {
                due("series " + s, x.count(2 + s), 20 + s);
            }
            for (int s = 0; s < 4; s++) {
                x.out(s);
                due("series " + s + " is out", x.count(2 + s), 0);
            }
        });
        promise(13, "6 WHY: BRACKETS (NONE: nothing BROKE)", () -> {
            EtaSeries x = new EtaSeries();
            due("at first", x.count(6), NONE);
            work(x, 0, "1/2");
            due("no bracket is 0, not NONE", x.count(6), 0);
            work(x, 0, "1");
            due("none broke", x.count(6), NONE);
        });
        promise(13, "7 the letter (its code; NONE)", () -> {
            EtaSeries x = new EtaSeries();
            due("at first", x.count(7), NONE);
            work(x, 0, "1/2");
            due("its code", x.count(7), 47);
            work(x, 0, "1");
            due("none broke", x.count(7), NONE);
        });
        promise(13, "8 what may be UNDONE", () -> {
            EtaSeries x = new EtaSeries();
            for (int k = 0; k <= 7; k++) {
                due(k + " made", x.count(8), Math.min(k, 6));
                x.make(0, ONE, 0);
            }
        });
        promise(13, "BAD", () -> bad("count", EtaSeries::count, -1, 9, LOW, HIGH));
    }
}
