/** Texts: how they are read, where they have a FAULT, and WHY they break (promises 7 and 8). */
final class TextEdges extends Edges {
    TextEdges(Sentences doc) {
        super(doc);
    }

    @Override
    void all() {
        sixtyLetters();
        grammar();
        atoms();
        brackets();
        faults();
        numbersNotAsTold();
        endsAndBlanks();
        breaks();
        fromTheLeft();
        why();
        whyStays();
        promise7();
        promise8();
    }

    private void fault(String text, int place) {
        EtaSeries x = new EtaSeries();
        due("FAULT of '" + text + "'", work(x, 0, text), FAULT - place);
        due("no series of '" + text + "'", x.count(1), 0);
    }

    /** A text tells v times ONE. */
    private void number(String text, int v) {
        EtaSeries x = new EtaSeries();
        due("'" + text + "'", work(x, 0, text), 24);
        sparse("'" + text + "'", x, 0, 24, 0, v);
    }

    /** A text tells a series that begins so. */
    private void begins(String text, int... want) {
        EtaSeries x = new EtaSeries();
        due("'" + text + "'", work(x, 0, text), 24);
        for (int k = 0; k < want.length; k++) {
            due("'" + text + "', term " + k, x.term(0, k), want[k]);
        }
    }

    private void sixtyLetters() {
        String quote = "A TEXT (60 letters at most)";
        String ones = "1+".repeat(29) + "01";
        terms(7, quote, () -> {
            EtaSeries x = new EtaSeries();
            for (int k = 1; k <= 60; k++) {
                due("letter " + k, x.type(ones.charAt(k - 1)), k);
            }
            due("letter 61", x.type('1'), FULL);
            due("letter 62", x.type(' '), FULL);
            due("60 stay", x.work(0), 24);
            sparse("60 stay", x, 0, 24, 0, 30);
        });
        terms(8, quote, () -> {
            number(ones, 30);
            number(" ".repeat(59) + "7", 7);
            number("7" + " ".repeat(59), 7);
            number("(" + "1*".repeat(28) + "17)", 17);
            fault(" ".repeat(60), 60);
            fault("1+".repeat(30), 60);
            fault("1+".repeat(29) + "1x", 59);
            fault("1".repeat(60), 2);
        });
    }

    private void grammar() {
        terms(8, "SUM: PARTS with + or - between", () -> {
            number("1+2-4", -1);
            number("9-3-2", 4);
            number("1+2*3-4*5+6", -7);
            fault("+1", 0);
            fault("-1", 0);
            fault("1+", 2);
            fault("1-", 2);
            fault("1++1", 2);
            fault("1+-1", 2);
            fault("1 1", 2);
        });
        terms(8, "PART: POWERS with * or / between, from the left", () -> {
            number("2*3*4", 24);
            begins("1/(1-q(1))/(1-q(1))", 1, 2, 3, 4, 5, 6);
            number("6/(1-q(1))*(1-q(1))", 6);
            fault("*1", 0);
            fault("/1", 0);
            fault("1*", 2);
            fault("1/", 2);
            fault("1**1", 2);
            fault("1*/1", 2);
            fault("(1)(1)", 3);
            fault("2e(1)", 1);
        });
        terms(8, "POWER: ATOM, perhaps ^ and a figure 0 .. 8", () -> {
            number("7", 7);
            number("7^0", 1);
            number("0^0", 1);
            number("7^1", 7);
            number("7^8", 5764801);
            number("2*3^2*4", 72);
            number("(1+1)^3", 8);
            begins("t(1)^2", 1, 4, 4, 0, 4, 8);
            fault("7^9", 2);
            fault("7^", 2);
            fault("7^10", 3);
            fault("7^08", 3);
            fault("7^2^2", 3);
            fault("7^(2)", 2);
            fault("7^-1", 2);
            fault("^2", 0);
            fault("7^^2", 2);
        });
    }

    private void atoms() {
        terms(8, "ATOM: a number of 1 or 2 digits (ONE, so many times)", () -> {
            number("0", 0);
            number("9", 9);
            number("00", 0);
            number("09", 9);
            number("10", 10);
            number("99", 99);
            fault("100", 2);
            fault("007", 2);
            fault("", 0);
        });
        terms(8, "e t s q and ( , a number of 1 or 2 digits, ) (EULER, THETA, PSI of 1 .. 9, Q of 0 .. 39)", () -> {
            begins("e(1)", 1, -1, -1, 0, 0, 1, 0, 1);
            begins("t(1)", 1, 2, 0, 0, 2);
            begins("s(1)", 1, 1, 0, 1, 0, 0, 1);
            begins("q(1)", 0, 1, 0);
            begins("e(9)", 1, 0, 0, 0, 0, 0, 0, 0, 0, -1);
            begins("t(9)", 1, 0, 0, 0, 0, 0, 0, 0, 0, 2);
            begins("s(09)", 1, 0, 0, 0, 0, 0, 0, 0, 0, 1);
            begins("q(00)", 1, 0, 0);
            number("q(39)", 0);
            for (String letter : new String[] {"e", "t", "s"}) {
                fault(letter + "(0)", 2);
                fault(letter + "(00)", 2);
                fault(letter + "(10)", 2);
                fault(letter + "(99)", 2);
            }
            fault("q(40)", 2);
            fault("q(99)", 2);
            fault("e", 1);
            fault("e(", 2);
            fault("e()", 2);
            // 0 would do for q, but it must stand there
            fault("q()", 2);
            fault("q( )", 3);
            fault("e(1", 3);
            fault("e1", 1);
            fault("e(-1)", 2);
            fault("e((1))", 2);
            fault("q(q(1))", 2);
            fault("E(1)", 0);
            fault("f(1)", 0);
            EtaSeries x = of(40, "q(39)");
            due("the last", x.term(0, 39), 1);
        });
    }

    private void brackets() {
        terms(8, "or ( SUM )", () -> {
            number("(5)", 5);
            number("2*(3+4)", 14);
            number("9-(3-2)", 8);
            number("((2)*(3))", 6);
            fault("()", 1);
            fault("(", 1);
            fault("(5", 2);
            fault("5)", 1);
            fault(")", 0);
            fault("((5)", 4);
            fault("(5))", 3);
            fault("(5+)", 3);
        });
        terms(8, "At most 6 brackets (those of SUMS) are open at once.", () -> {
            number("((((((5))))))", 5);
            fault("(((((((5)))))))", 6);
            number("((((((5))))))+((((((6))))))", 11);
            number("((((((5)))+(((6))))))", 11);
            begins("((((((e(1)))))))", 1, -1, -1, 0);
            fault("((((((e(1)+(1)))))))", 11);
            number("1-(2-(3-(4-(5-(6-(7-9)*2)*2)*2)*2)*2)*2", -263);
            // brackets that a FAULT left open are not open in the next text
            EtaSeries x = new EtaSeries();
            work(x, 0, "((((((");
            due("the next text", work(x, 0, "((((((5))))))"), 24);
        });
    }

    private void faults() {
        terms(8, "A FAULT: -1000020 less the place of the first letter (behind blanks) that can't stand there", () -> {
            due("at place 0", work(of(), 0, "x"), -1000020);
            due("at place 1", work(of(), 0, "1x"), -1000021);
            due("at place 59", work(of(), 0, " ".repeat(59) + "x"), -1000079);
            fault("x+y", 0);
            fault("1+x+y", 2);
            fault("1   x", 4);
            fault("   x", 3);
            fault("1 +   *", 6);
            fault("~", 0);
            fault("1.5", 1);
            fault("1^x", 2);
            fault("1^   9", 5);
            fault("e   x", 4);
            fault("e(   x", 5);
            fault("e(1   x", 6);
        });
        terms(8, "(a third digit, a 7th bracket, too)", () -> {
            fault("123", 2);
            fault("1+234", 4);
            fault("q(123)", 4);
            fault("q(012)", 4);
            fault("q(390)", 4);
            fault("e(012)", 4);
            fault("(((((((", 6);
            fault("(((((( (", 7);
            fault("1+((((((1+(1", 10);
        });
    }

    private void numbersNotAsTold() {
        terms(8, "or of the first digit of a number that is not as told (of both that)", () -> {
            fault("e(10)", 2);
            fault("e(  10)", 4);
            fault("1+q(40)", 4);
            // both: a number not as told, and behind it what can't stand there
            fault("e(100)", 2);
            fault("q(400)", 2);
            fault("e(0", 2);
            fault("e(0x)", 2);
            fault("e(0+1)", 2);
            fault("e(0 1)", 2);
            fault("e(10 )", 2);
            fault("q(40 1)", 2);
        });
    }

    private void endsAndBlanks() {
        terms(8, "the end: how many there are", () -> {
            fault("", 0);
            fault(" ", 1);
            fault("1+", 2);
            fault("1+  ", 4);
            fault("(1", 2);
            fault("(1 ", 3);
            fault("1^", 2);
            fault("1^ ", 3);
            fault("e ", 2);
            fault("e( ", 3);
            fault("e(1 ", 4);
            fault("(((((( ", 7);
        });
        terms(8, "blanks count for nothing, but end a number", () -> {
            number("  7  ", 7);
            number(" ( 1 + 2 ) ^ 3 * 4 ", 108);
            begins(" q ( 2 ) / 1 ", 0, 0, 1, 0);
            begins("q( 02 )", 0, 0, 1, 0);
            number("9 ^ 2", 81);
            fault("1 2", 2);
            fault("12 3", 3);
            fault("1  ^ 2 3", 7);
            fault("q(1 2)", 4);
            fault("q(3 9)", 4);
        });
    }

    private void breaks() {
        terms(8, "If a TEXT without FAULT BREAKS (WIDE, ROOT)", () -> {
            EtaSeries x = new EtaSeries();
            due("a FAULT behind what would break", work(x, 0, "1/2+"), FAULT - 4);
            due("is not worked out", x.count(6), NONE);
            due("a FAULT behind what would break", work(x, 0, "99^8)"), FAULT - 4);
            due("is not worked out", x.count(7), NONE);
            due("WIDE", work(x, 0, "99^8"), WIDE);
            due("why", x.count(7), '^');
            due("ROOT", work(x, 0, "1/2"), ROOT);
            due("why", x.count(7), '/');
            due("no series", x.count(1), 0);
            due("nothing to be undone", x.count(8), 0);
        });
    }

    private void broken(String text, int refusal, int brackets, char letter) {
        EtaSeries x = new EtaSeries();
        due(text, work(x, 0, text), refusal);
        due(text + ", brackets", x.count(6), brackets);
        due(text + ", letter", x.count(7), letter);
    }

    private void fromTheLeft() {
        String quote = "as it is worked out from the left, each PART ahead of the next one, powers ahead of what they are"
            + " multiplied with";
        terms(8, quote, () -> {
            broken("1/2+(99^8)", ROOT, 0, '/');
            broken("(99^8)+1/2", WIDE, 1, '^');
            broken("10^8*2+1/0", WIDE, 0, '*');
            broken("1/0+10^8*2", ROOT, 0, '/');
            broken("10^8+1-(1/2)", WIDE, 0, '+');
            broken("10^8*10/2", WIDE, 0, '*');
            broken("10^8/2*10", ROOT, 0, '/');
            broken("2*99^8", WIDE, 0, '^');
            broken("1/99^8", WIDE, 0, '^');
            broken("1/2^2", ROOT, 0, '/');
            broken("1/(2*(99^8))", WIDE, 2, '^');
            broken("1/((1/2))", ROOT, 2, '/');
            broken("1/2*(99^8)", ROOT, 0, '/');
            broken("10^8+10^8+(1/2)", WIDE, 0, '+');
        });
    }

    private void why() {
        String brackets = "how many BRACKETS were open around the place where it broke";
        terms(8, brackets, () -> {
            for (int k = 0; k <= 6; k++) {
                broken("(".repeat(k) + "1/2" + ")".repeat(k), ROOT, k, '/');
                broken("(".repeat(k) + "99^8" + ")".repeat(k), WIDE, k, '^');
            }
            broken("((1))/((2))", ROOT, 0, '/');
            broken("((99))^8", WIDE, 0, '^');
            broken("(((1)))+(1/(2))", ROOT, 1, '/');
            broken("(e(1)/2)", ROOT, 1, '/');
            broken("((1)-(0-(10^8)*(10^8)))", WIDE, 2, '*');
        });
        terms(8, "the letter at which it broke: ^ * / + or -", () -> {
            broken("99^5", WIDE, 0, '^');
            broken("10^8*2", WIDE, 0, '*');
            broken("1/0", ROOT, 0, '/');
            broken("1/(1-99*q(1))", WIDE, 0, '/');
            broken("10^8+1", WIDE, 0, '+');
            broken("0-10^8-1", WIDE, 0, '-');
        });
        terms(13, "the letter at which it broke: ^ * / + or -", () -> {
            String[] texts = {"99^5", "10^8*2", "1/0", "10^8+1", "0-10^8-1"};
            int[] codes = {94, 42, 47, 43, 45};
            for (int k = 0; k < texts.length; k++) {
                EtaSeries x = of(texts[k]);
                due(texts[k], x.count(7), codes[k]);
            }
        });
    }

    private void whyStays() {
        String quote = "WHY is told: how many BRACKETS were open around the place where it broke; the letter at which it"
            + " broke: ^ * / + or -. WHY stays till another TEXT is worked out (then, if that does not break, it is none).";
        terms(13, quote, () -> {
            EtaSeries x = of("((1/2))");
            row(x, 0, BYTES, 1, -9, 1, -9);
            x.make(0, ONE, 0);
            x.join(0, OVER, 0, 0);
            x.change(0, FOLD, 2);
            x.join(1, OVER, 0, 0);
            x.quotient(1, 0, BYTES, 0, 2);
            x.image();
            x.undo();
            x.out(0);
            x.length(9);
            x.drift(2);
            x.restore();
            x.work(4);
            due("brackets stay", x.count(6), 2);
            due("the letter stays", x.count(7), '/');
            due("another that breaks", work(x, 0, "10^8+1"), WIDE);
            due("its brackets", x.count(6), 0);
            due("its letter", x.count(7), '+');
            x.restore();
            due("an image has no WHY", x.count(7), '+');
            due("another that doesn't", work(x, 0, "1"), 24);
            due("no brackets", x.count(6), NONE);
            due("no letter", x.count(7), NONE);
        });
        terms(8, quote, () -> {
            EtaSeries x = of("(1/2)");
            due("one with a FAULT is not worked out", work(x, 0, "1+"), FAULT - 2);
            due("brackets stay", x.count(6), 1);
            due("the letter stays", x.count(7), '/');
            due("THE TAPE is empty", x.work(0), FAULT);
            due("the letter stays", x.count(7), '/');
        });
    }

    private void promise7() {
        promise(7, "One letter more behind THE TAPE: how many it has.", () -> {
            EtaSeries x = new EtaSeries();
            due("the first", x.type('1'), 1);
            due("the second, behind it", x.type('2'), 2);
            x.work(0);
            due("12", x.term(0, 0), 12);
            due("the first again", x.type('1'), 1);
        });
        promise(7, "BAD: not 32 .. 126", () -> {
            bad("type", EtaSeries::type, 31, 127, 0, -1, 256 + '1', 65536 + '1', LOW, HIGH);
            EtaSeries x = new EtaSeries();
            due("32", x.type(32), 1);
            due("126", x.type(126), 2);
            due("31 is not written", x.type(31), BAD);
            due("so there are", x.type(33), 3);
        });
        promise(7, "FULL: 60.", () -> {
            EtaSeries x = new EtaSeries();
            for (int k = 1; k < 60; k++) {
                x.type('1');
            }
            due("60", x.type('1'), 60);
            due("61", x.type('1'), FULL);
            due("still", x.type('1'), FULL);
            x.work(0);
            due("room again", x.type('1'), 1);
        });
    }

    private void promise8() {
        promise(8, "THE TAPE, which is empty then (by a FAULT, too), is worked out: a SERIES becomes it", () -> {
            EtaSeries x = new EtaSeries();
            work(x, 2, "5");
            due("the series", x.term(2, 0), 5);
            due("that one alone", x.count(1), 4);
            String[] texts = {"5", "5+", "1/2", "99^8", "", "((((((("};
            for (String text : texts) {
                work(x, 0, text);
                due("empty behind '" + text + "'", x.type(' '), 1);
                x.work(0);
            }
        });
        promise(8, "how many TERMS.", () -> {
            due("4", work(of(4), 3, "5"), 4);
            due("40", work(of(40), 3, "5"), 40);
        });
        promise(8, "BAD (THE TAPE stays);", () -> {
            EtaSeries x = new EtaSeries();
            type(x, "12");
            for (int v : new int[] {-1, 4, LOW, HIGH}) {
                due("series " + v, x.work(v), BAD);
            }
            due("stays", x.type(' '), 3);
            due("stays", x.work(3), 24);
            due("stays", x.term(3, 0), 12);
        });
        promise(8, "a FAULT;", () -> {
            EtaSeries x = of("5");
            due("FAULT", work(x, 0, "6+"), FAULT - 2);
            due("the series stays", x.term(0, 0), 5);
            due("nothing to be undone of it", x.count(8), 1);
        });
        promise(8, "WIDE;", () -> {
            EtaSeries x = of("5");
            due("WIDE", work(x, 0, "10^8+1"), WIDE);
            due("the series stays", x.term(0, 0), 5);
            due("nothing to be undone of it", x.count(8), 1);
        });
        promise(8, "ROOT", () -> {
            EtaSeries x = of("5");
            due("ROOT", work(x, 0, "6/2"), ROOT);
            due("the series stays", x.term(0, 0), 5);
            due("nothing to be undone of it", x.count(8), 1);
        });
    }
}
