import java.math.BigInteger;

/** "Terms", part 2: a test for each sentence, and for each case at its edge. */
public final class Terms2EdgesTest {
    public static void main(String[] args) {
        Edges.run(Terms2EdgesTest.class);
    }

    // ---- reasons

    private static void reasons(Due due, String what, TwoLetterForms x, int... reasons) {
        for (int i = 0; i < reasons.length; i++) {
            due.eq(what + ": reason(" + i + ")", x.reason(i), reasons[i]);
        }
        due.eq(what + ": reason(" + reasons.length + ")", x.reason(reasons.length), -5);
    }

    @Says(in = "Terms 2", words = "REASONS why there is no ANSWER, one behind the other, each the cause of the one ahead: b; the first PRIME that BARS M (its p); REMAINDERS by it.")
    static void reasonsAreThreeIfAPrimeBarsM(Due due) {
        reasons(due, "the least b, the first PRIME, the fewest REMAINDERS", Due.equation(1, 1, 0, 0, 0), 1, 2, 1);
        // Of 2310 the last PRIME alone is no divisor.
        reasons(due, "the greatest b, the last PRIME", Due.equation(2310, 40, 0, 0, 0), 40, 13, 1);
        // Fourth powers by 5 are 0 and 1, two of them 0, 1, 2; 9998 is 3.
        reasons(due, "more REMAINDERS", Due.equation(9998, 7, 1, 0, 0, 0, 1), 7, 5, 3);
        // -1 is no square by 3, by 7 and by 11.
        reasons(due, "the first of three", Due.equation(-1, 10, 1, 0, 0), 10, 3, 2);
    }

    @Says(in = "Terms 2", words = "If no PRIME BARS M, there is just the first one;")
    static void reasonsAreOneIfNoPrimeBarsM(Due due) {
        reasons(due, "x^2 + y^2 = 3", Due.equation(3, 10, 1, 0, 1), 10);
        reasons(due, "x y = 1600, one two behind the window", Due.equation(1600, 39, 0, 1, 0), 39);
        reasons(due, "x y = 4 in the least window", Due.equation(4, 1, 0, 1, 0), 1);
    }

    @Says(in = "Terms 2", words = "if there are ANSWERS, none.")
    static void thereAreNoReasonsIfThereAreAnswers(Due due) {
        reasons(due, "two ANSWERS at the window's corners", Due.equation(1600, 40, 0, 1, 0));
        reasons(due, "one ANSWER", Due.equation(0, 10, 1, 0, 1));
        reasons(due, "all twos", Due.equation(0, 40, 0, 0, 0));
    }

    // ---- seen

    @Says(in = "Terms 2", words = "SEEN told by hand: x, y (-9 .. 9 each), a VALUE (-9999 .. 9999;")
    static void seenIsWithin9AndItsValueWithin9999(Due due) {
        TwoLetterForms x = new TwoLetterForms();
        due.eq("the least", x.see(-9, -9, -9999), 1);
        due.eq("the greatest", x.see(9, 9, 9999), 2);
        due.eq("x below", x.see(-10, 0, 0), -2);
        due.eq("x above", x.see(10, 0, 0), -2);
        due.eq("y below", x.see(0, -10, 0), -2);
        due.eq("y above", x.see(0, 10, 0), -2);
        due.eq("VALUE below", x.see(0, 0, -10000), -2);
        due.eq("VALUE above", x.see(0, 0, 10000), -2);
        due.eq("two stand", x.count(0), 2);
    }

    @Says(in = "Terms 2", words = "SEEN told by hand: x, y (-9 .. 9 each), a VALUE (-9999 .. 9999;")
    static void seenAtItsEdgesIsHeldAgainstTheForm(Due due) {
        // a0 x^2 - 9 x y + 9 y^2 at 9, -9 is 81 a0 and 1458.
        TwoLetterForms x = Due.form(0, -9, 9);
        x.see(9, -9, 9477);
        due.eq("a0 99", x.fits(0, 1), 199);
        x.see(-9, 9, 9477);
        due.eq("at -9, 9 too", x.fits(0, 0), 1);
        TwoLetterForms y = Due.form(0, 0, -24);
        y.see(9, 9, -9963);
        due.eq("a0 -99", y.fits(0, 1), 1);
        y.see(-9, -9, -9963);
        due.eq("at -9, -9 too", y.fits(0, 0), 1);
        TwoLetterForms z = Due.form(0, 0, 0);
        z.see(0, 0, 9999);
        due.eq("9999 at 0 0: by none", z.fits(0, 0), 0);
    }

    @Says(in = "Terms 2", words = "4 rows at most).")
    static void seenHas4RowsAtMost(Due due) {
        TwoLetterForms x = Due.form(1, 0, 1);
        for (int k = 1; k <= 4; k++) {
            due.eq("row " + k, x.see(k, 0, k * k), k);
        }
        due.eq("a fifth", x.see(5, 0, 24), -4);
        due.eq("4 stand", x.count(0), 4);
        due.eq("the fifth isn't held against the form", x.fits(0, 1), 101);
        due.eq("but the first is", x.see(-100, 0, 0), 0);
        x.see(1, 0, 2);
        x.see(2, 0, 4);
        due.eq("all of them are", x.fits(0, 0), 0);
        due.eq("all of them are", x.fits(2, 0), 0);
    }

    @Says(in = "Terms 2", words = "4 rows at most).")
    static void theFourthRowSeenIsHeldAgainstTheForm(Due due) {
        TwoLetterForms x = Due.form(1, 0, 1);
        x.see(1, 0, 1);
        x.see(2, 0, 4);
        x.see(3, 0, 9);
        due.eq("three", x.fits(0, 0), 1);
        x.see(4, 0, 17);
        due.eq("the fourth is otherwise", x.fits(0, 0), 0);
    }

    @Says(in = "Terms 2", words = "FITS of a NUMBER i: how many numbers -99 .. 99 there are by which, were each it alone, all of SEEN would be so;")
    static void fitsAre0To199(Due due) {
        // a0 is a at 1 0; a1 and a2 do not matter there.
        TwoLetterForms x = Due.form(5, 6, 7);
        due.eq("all", x.fits(0, 0), 199);
        x.see(1, 0, 99);
        due.eq("99", x.fits(0, 0), 1);
        due.eq("a1 can't help a0, which is 5", x.fits(1, 0), 0);
        x.see(-100, 0, 0);
        x.see(1, 0, -99);
        due.eq("-99", x.fits(0, 0), 1);
        x.see(-100, 0, 0);
        x.see(1, 0, 100);
        due.eq("100", x.fits(0, 0), 0);
        x.see(-100, 0, 0);
        x.see(1, 0, -100);
        due.eq("-100", x.fits(0, 0), 0);
        x.see(-100, 0, 0);
        x.see(1, 0, 5);
        due.eq("all by a NUMBER that doesn't matter", x.fits(1, 0), 199);
        due.eq("the last NUMBER", x.fits(2, 0), 199);
        x.see(0, 1, 8);
        due.eq("all of SEEN: one is not so", x.fits(0, 0), 0);
        due.eq("all of SEEN: by a2 it would be so", x.fits(2, 0), 1);
    }

    @Says(in = "Terms 2", words = "100 more than the least of these (0: there is none).")
    static void theLeastFitIs1To199Or0(Due due) {
        TwoLetterForms x = Due.form(5, 6, 7);
        due.eq("the least of all", x.fits(0, 1), 1);
        x.see(1, 0, -99);
        due.eq("-99", x.fits(0, 1), 1);
        x.see(-100, 0, 0);
        x.see(1, 0, 99);
        due.eq("99", x.fits(0, 1), 199);
        x.see(-100, 0, 0);
        x.see(1, 0, 0);
        due.eq("0", x.fits(0, 1), 100);
        x.see(1, 0, 1);
        due.eq("none", x.fits(0, 1), 0);
        due.eq("none of another", x.fits(1, 1), 0);
    }

    // ---- odds, mean

    private static void odds(Due due, String what, TwoLetterForms x, long above, long below) {
        due.eq(what + ": above the line", x.odds(0), above);
        due.eq(what + ": below the line", x.odds(1), below);
    }

    private static void mean(Due due, String what, TwoLetterForms x, long above, long below) {
        due.eq(what + ": above the line", x.mean(0), above);
        due.eq(what + ": below the line", x.mean(1), below);
    }

    @Says(in = "Terms 2", words = "ODDS: twos of THE WINDOW being alike likely, how likely VALUE is above M: a fraction in lowest terms.")
    static void oddsAreNoneToAll(Due due) {
        odds(due, "none", Due.equation(1, 1, 1, 0, 0), 0, 1);
        odds(due, "all", Due.equation(-1, 1, 1, 0, 0), 1, 1);
        odds(due, "6 of 9", Due.equation(0, 1, 1, 0, 0), 2, 3);
        odds(due, "2 of 9, in lowest terms at once", Due.equation(0, 1, 0, 1, 0), 2, 9);
        odds(due, "3200 of 6561", Due.equation(0, 40, 0, 1, 0), 3200, 6561);
        odds(due, "all of 6561", Due.equation(-1, 40, 0, 0, 0), 1, 1);
        odds(due, "the corners alone", Due.equation(1599, 40, 0, 1, 0), 2, 6561);
    }

    @Says(in = "Terms 2", words = "ODDS: twos of THE WINDOW being alike likely, how likely VALUE is above M: a fraction in lowest terms.")
    static void mItselfIsNotAboveM(Due due) {
        odds(due, "1600 isn't above 1600", Due.equation(1600, 40, 0, 1, 0), 0, 1);
        odds(due, "1 is above 0, 0 isn't", Due.equation(0, 1, 0, 0, 1), 2, 3);
        odds(due, "0 is above -1", Due.equation(-1, 1, 0, 0, -1), 1, 3);
        odds(due, "the greatest M", Due.equation(9999, 1, 99, 99, 99, 99, 99), 0, 1);
        odds(due, "the least M", Due.equation(-9999, 1, -99, -99, -99, -99, -99), 1, 1);
    }

    @Says(in = "Terms 2", words = "MEAN: VALUES at all twos of THE WINDOW, together, by how many there are: a fraction in lowest terms")
    static void meanIsInLowestTerms(Due due) {
        mean(due, "6 by 9", Due.equation(1, 1, 1, 0, 0), 2, 3);
        mean(due, "50 by 25", Due.equation(1, 2, 1, 0, 0), 2, 1);
        mean(due, "12 by 9", Due.equation(1, 1, 1, 0, 1), 4, 3);
        mean(due, "4 by 9, in lowest terms at once", Due.equation(1, 1, 0, 0, 1, 0, 0), 4, 9);
    }

    @Says(in = "Terms 2", words = "MEAN: VALUES at all twos of THE WINDOW, together, by how many there are: a fraction in lowest terms")
    static void theGreatestMean(Due due) {
        BigInteger sum = BigInteger.ZERO;
        for (int x = -40; x <= 40; x++) {
            for (int y = -40; y <= 40; y++) {
                long one = (long) x * x * x * x + (long) x * x * x * y + (long) x * x * y * y + (long) x * y * y * y + (long) y * y * y * y;
                sum = sum.add(BigInteger.valueOf(99 * one));
            }
        }
        BigInteger common = sum.gcd(BigInteger.valueOf(6561));
        long above = sum.divide(common).longValueExact();
        long below = 6561 / common.longValueExact();
        mean(due, "the greatest", Due.equation(1, 40, 99, 99, 99, 99, 99), above, below);
        mean(due, "the least", Due.equation(1, 40, -99, -99, -99, -99, -99), -above, below);
    }

    @Says(in = "Terms 2", words = "(below 0 above the line; 0 by 1).")
    static void aMeanBelow0IsSoAboveTheLineAlone(Due due) {
        mean(due, "-6 by 9", Due.equation(1, 1, -1, 0, 0), -2, 3);
        mean(due, "-2 by 1", Due.equation(1, 2, -1, 0, 0), -2, 1);
        mean(due, "0 by 1: the zeros", Due.equation(1, 40, 0, 0, 0), 0, 1);
        mean(due, "0 by 1: all together", Due.equation(1, 1, 1, 0, -1), 0, 1);
        mean(due, "0 by 1: odd powers", Due.equation(1, 40, 99, 98, 97, 96), 0, 1);
    }

    // ---- events

    @Says(in = "Terms 2", words = "EVENTS told by hand: what happens (0 NUMBER n is 1 more, 99 at most, if there is one;")
    static void event0StopsAt99(Due due) {
        // 99x^2 + 99y^2 has 8 UNITS, and 4 if the NUMBERS were unlike.
        TwoLetterForms x = Due.form(97, 0, 99);
        due.eq("97", x.after(2), 4);
        x.event(0, 0);
        due.eq("98", x.after(2), 4);
        x.event(0, 0);
        due.eq("99", x.after(2), 8);
        x.event(0, 0);
        due.eq("99 at most", x.after(2), 8);
        x.event(0, 2);
        due.eq("99 at most, of the last NUMBER", x.after(2), 8);
        TwoLetterForms y = Due.form(-99, 0, -98);
        y.event(0, 0);
        due.eq("-99 becomes -98", y.after(2), 8);
        TwoLetterForms z = Due.form(-1, 0, 0);
        z.event(0, 0);
        due.eq("-1 becomes 0", z.after(2), 104);
    }

    @Says(in = "Terms 2", words = "EVENTS told by hand: what happens (0 NUMBER n is 1 more, 99 at most, if there is one;")
    static void event0OfANumberThatIsNotThereDoesNothing(Due due) {
        TwoLetterForms x = new TwoLetterForms();
        x.degree(4);
        x.event(0, 3);
        x.event(0, 4);
        due.eq("x y^3 + y^4 = 1: 0 -1, 0 1", x.after(0), 2);
        x.degree(2);
        due.eq("neither is there: the zeros", x.after(2), 104);
        x.degree(3);
        due.eq("a3 is there, a4 isn't: y^3 = 1", x.after(0), 21);
        due.eq("a3 is there, a4 isn't", x.after(2), 10);
        x.degree(4);
        due.eq("both are there again", x.after(0), 2);
    }

    @Says(in = "Terms 2", words = "1 MOVE n, if by it no NUMBER is beyond;")
    static void event1StopsAtNumbersBeyond(Due due) {
        // 49x^2 = 49 has 6 ANSWERS in the least window, 49 (x + y)^2 = 49 has 4.
        TwoLetterForms x = Due.equation(49, 1, 49, 0, 0);
        due.eq("before", x.after(0), 6);
        x.event(1, 0);
        due.eq("98 isn't beyond", x.after(0), 4);
        due.eq("98 isn't beyond", Due.equation(49, 1, 49, 98, 49).told(3), 4);
        TwoLetterForms y = Due.equation(50, 1, 50, 0, 0);
        y.event(1, 0);
        due.eq("100 is", y.after(0), 6);
        TwoLetterForms z = Due.equation(-50, 1, -50, 0, 0);
        z.event(1, 1);
        due.eq("100 and -100 are", z.after(0), 6);
        // 99 and -99 aren't beyond.
        TwoLetterForms edge = Due.equation(-99, 1, 99, 0, 0);
        edge.event(1, 2);
        edge.event(1, 3);
        edge.event(1, 4);
        due.eq("-99 y^2 = -99", edge.after(0), 6);
        due.eq("it was 99x^2 = -99", edge.told(3), 0);
    }

    @Says(in = "Terms 2", words = "2 M is n more, if it isn't beyond then;")
    static void event2StopsAtMBeyond(Due due) {
        // 99x^2 + 99y^2 is 9900 at 12 twos, 9999 at 8.
        TwoLetterForms x = Due.equation(9900, 40, 99, 0, 99);
        due.eq("9900", x.after(0), 12);
        x.event(2, 99);
        due.eq("9999 isn't beyond", x.after(0), 8);
        x.event(2, 1);
        due.eq("10000 is", x.after(0), 8);
        x.event(2, 99);
        due.eq("10098 is", x.after(0), 8);
        x.event(2, -99);
        due.eq("9900 isn't", x.after(0), 12);
        TwoLetterForms y = Due.equation(-9900, 40, -99, 0, -99);
        y.event(2, -99);
        due.eq("-9999 isn't beyond", y.after(0), 8);
        y.event(2, -1);
        due.eq("-10000 is", y.after(0), 8);
        y.event(2, 0);
        due.eq("0 more", y.after(0), 8);
    }

    @Says(in = "Terms 2", words = "8 rows at most):")
    static void eventsAre8AtMostAndTheEighthHappens(Due due) {
        TwoLetterForms x = Due.equation(0, 2, 1, 0, 0);
        for (int k = 1; k <= 8; k++) {
            due.eq("row " + k, x.event(2, k < 8 ? 0 : 4), k);
        }
        due.eq("x^2 = 4", x.after(0), 10);
        due.eq("a ninth", x.event(2, -4), -4);
        due.eq("8 stand", x.count(1), 8);
        due.eq("the ninth doesn't happen", x.after(0), 10);
    }

    @Says(in = "Terms 2", words = "AFTER, behind all of it: how many ANSWERS; the first PRIME that BARS M (its p; -5: none); how many UNITS.")
    static void afterIsBehindAllEventsInTheirOrder(Due due) {
        TwoLetterForms x = Due.equation(1, 10, 0, 0, 0);
        due.eq("no EVENTS: ANSWERS", x.after(0), 0);
        due.eq("no EVENTS: the first PRIME", x.after(1), 2);
        due.eq("no EVENTS: UNITS", x.after(2), 104);
        // a0 is 1 more, x and y change places, a0 is 1 more: x^2 + y^2. Any other order leaves another form.
        x.event(0, 0);
        x.event(1, 2);
        x.event(0, 0);
        due.eq("x^2 + y^2 = 1", x.after(0), 4);
        due.eq("none", x.after(1), -5);
        due.eq("UNITS", x.after(2), 8);
        // By 13, fourth powers are 0, 1, 3, 9; two of them are never 7, and no earlier PRIME bars that.
        TwoLetterForms y = Due.equation(0, 10, 1, 0, 0, 0, 1);
        y.event(2, 7);
        due.eq("the last PRIME", y.after(1), 13);
        y.event(2, -7);
        due.eq("M 0: one ANSWER", y.after(0), 1);
        due.eq("M 0: none", y.after(1), -5);
    }

    // ---- books

    @Says(in = "Terms 2", words = "A BOOK told by hand: i, NUMBERS (8 rows at most):")
    static void theBookHas8RowsAtMost(Due due) {
        TwoLetterForms x = Due.form(99, -99, 0);
        due.eq("empty", x.looked(), -5);
        for (int k = 1; k <= 7; k++) {
            due.eq("row " + k, x.book(k % 2, k % 2 == 0 ? 99 : -99), k);
        }
        due.eq("the eighth", x.book(2, 5), 8);
        due.eq("a ninth", x.book(0, 0), -4);
        due.eq("8 stand", x.count(2), 8);
        due.eq("the eighth is looked at", x.looked(), 7);
        x.number(2, 5);
        due.eq("the ninth isn't", x.looked(), -5);
    }

    @Says(in = "Terms 2", words = "LOOKED at: the number (from 0) of the first of these rows whose NUMBER isn't there, or is otherwise now (-5: none).")
    static void lookedAtTheFirstThatIsOtherwise(Due due) {
        TwoLetterForms x = Due.form(1, 2, 3, 4, 0);
        x.book(0, 1);
        x.book(3, 4);
        x.book(4, 0);
        due.eq("none", x.looked(), -5);
        x.number(4, 1);
        due.eq("the last", x.looked(), 2);
        x.number(3, -4);
        due.eq("the last but one", x.looked(), 1);
        x.number(0, 2);
        due.eq("the first", x.looked(), 0);
    }

    @Says(in = "Terms 2", words = "LOOKED at: the number (from 0) of the first of these rows whose NUMBER isn't there, or is otherwise now (-5: none).")
    static void aNumberThatIsNotThereIsOtherwiseThan0(Due due) {
        TwoLetterForms x = Due.form(0, 0, 0, 0, 0);
        x.book(2, 0);
        x.book(3, 0);
        x.book(4, 0);
        due.eq("all are there", x.looked(), -5);
        x.degree(3);
        due.eq("a4 isn't there", x.looked(), 2);
        x.degree(2);
        due.eq("a3 isn't there", x.looked(), 1);
        x.degree(4);
        due.eq("they are there again", x.looked(), -5);
    }

    // ---- the image

    @Says(in = "Terms 2", words = "THE IMAGE: DEGREE, NUMBERS, M, b, SEEN, EVENTS, the BOOK.")
    static void theImageIsOfTheseAndNoOthers(Due due) {
        TwoLetterForms x = Due.equation(7, 8, 1, 0, -2);
        x.see(1, 0, 1);
        x.event(0, 0);
        x.event(2, 1);
        x.book(0, 1);
        x.book(1, 0);
        x.book(2, 5);
        Due.feed(x, "d");
        x.tape(0, 1, 3);
        x.image();
        Due.feed(x, "4");
        x.item(0, 2, 5);
        x.tape(1, 3, 2);
        x.degree(4);
        x.number(4, 9);
        x.equal(-7);
        x.window(9);
        x.see(-100, 0, 0);
        x.event(-1, 0);
        x.book(-1, 0);
        due.eq("DEGREE", x.undo(), 2);
        due.numbers("NUMBERS", x, 1, 0, -2);
        due.eq("M", x.told(1), 10007);
        due.eq("b", x.told(2), 8);
        due.eq("SEEN", x.count(0), 1);
        due.eq("SEEN", x.fits(0, 1), 101);
        due.eq("EVENTS", x.count(1), 2);
        due.eq("EVENTS: 2x^2 - 2y^2 = 8", x.after(0), 2);
        due.eq("the BOOK", x.count(2), 3);
        due.eq("the BOOK", x.looked(), 2);
        due.eq("THE TEXT stays", x.count(3), 2);
        due.eq("THE TEXT stays", x.read(), 1);
        due.eq("TAPES stay", x.peek(0, 2), 5);
        due.eq("TAPES stay", x.peek(1, 1), 0);
    }

    @Says(in = "Terms 2", words = "THE IMAGE: DEGREE, NUMBERS, M, b, SEEN, EVENTS, the BOOK.")
    static void theImageIsOfFullAndOfEmptyRows(Due due) {
        TwoLetterForms x = Due.form(1, 1, 1);
        x.image();
        for (int k = 0; k < 8; k++) {
            x.see(k, 0, k * k);
            x.event(2, k == 7 ? 2 : 0);
            x.book(0, k == 7 ? 9 : 1);
        }
        x.undo();
        for (int what = 0; what < 3; what++) {
            due.eq("empty: count(" + what + ")", x.count(what), 0);
        }
        for (int k = 0; k < 8; k++) {
            x.see(k, 0, k == 3 ? 5 : k * k);
            x.event(2, k == 7 ? 2 : 0);
            x.book(0, k == 7 ? 9 : 1);
        }
        x.image();
        x.see(-100, 0, 0);
        x.event(-1, 0);
        x.book(-1, 0);
        for (int k = 0; k < 8; k++) {
            x.see(0, 0, 0);
            x.event(1, 4);
            x.book(2, 1);
        }
        x.undo();
        due.eq("full: SEEN", x.count(0), 4);
        due.eq("full: EVENTS", x.count(1), 8);
        due.eq("full: the BOOK", x.count(2), 8);
        due.eq("the fourth of SEEN", x.fits(0, 0), 0);
        due.eq("the eighth of EVENTS: x^2 + xy + y^2 = 3", x.after(0), 6);
        due.eq("the eighth of the BOOK", x.looked(), 7);
    }
}
