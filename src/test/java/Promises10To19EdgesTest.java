/** Promises 10 to 19: a test for each sentence, and for each case at its edge. */
public final class Promises10To19EdgesTest {
    private static final int LEAST = Edges.LEAST, MOST = Edges.MOST;
    private static final long NO = Edges.NO;

    public static void main(String[] args) {
        Edges.run(Promises10To19EdgesTest.class);
    }

    /** xy (x + 3y) = 0: 81 ANSWERS of x 0, 80 more of y 0, 26 more of x -3y; the one UNIT carries each to itself. */
    private static TwoLetterForms withoutLinks() {
        return Due.equation(0, 40, 0, 1, 3, 0);
    }

    // ---- promise 10: of

    @Says(in = "Promise 10", words = "NUMBER i, and 100.")
    static void p10TheLeastAndTheGreatestNumber(Due due) {
        TwoLetterForms x = Due.form(-99, 0, 99, -1, 1);
        due.eq("of(0)", x.of(0), 1);
        due.eq("of(1)", x.of(1), 100);
        due.eq("of(2)", x.of(2), 199);
        due.eq("of(3)", x.of(3), 99);
        due.eq("of(4)", x.of(4), 101);
    }

    @Says(in = "Promise 10", words = "NONE: i.")
    static void p10BelowTheFirstAndBehindTheLast(Due due) {
        TwoLetterForms x = new TwoLetterForms();
        for (int d = 2; d <= 4; d++) {
            x.degree(d);
            due.eq("the last of degree " + d, x.of(d), 100);
            due.eq("behind the last of degree " + d, x.of(d + 1), -1);
        }
        for (int i : new int[] {-1, -2, 5, LEAST, MOST}) {
            due.eq("of(" + i + ")", x.of(i), -1);
        }
    }

    // ---- promise 11: told

    @Says(in = "Promise 11", words = "0 DEGREE, 1 M, and 10000, 2 b,")
    static void p11TheLeastAndTheGreatestOfWhatIsSet(Due due) {
        TwoLetterForms least = Due.equation(-9999, 1, 0, 0, 0);
        due.eq("the least DEGREE", least.told(0), 2);
        due.eq("the least M", least.told(1), 1);
        due.eq("the least b", least.told(2), 1);
        TwoLetterForms most = Due.equation(9999, 40, 0, 0, 0, 0, 0);
        due.eq("the greatest DEGREE", most.told(0), 4);
        due.eq("the greatest M", most.told(1), 19999);
        due.eq("the greatest b", most.told(2), 40);
    }

    @Says(in = "Promise 11", words = "3 how many ANSWERS, 4 UNITS, 5 FAMILIES, 6 PARTS,")
    static void p11TheFewestAndTheMostOfWhatIsFound(Due due) {
        TwoLetterForms none = Due.equation(1, 40, 0, 0, 0);
        due.eq("no ANSWERS", none.told(3), 0);
        due.eq("no FAMILIES", none.told(5), 0);
        due.eq("the most UNITS", none.told(4), 104);
        TwoLetterForms all = Due.equation(0, 40, 0, 0, 0);
        due.eq("all ANSWERS", all.told(3), 6561);
        due.eq("their FAMILIES", all.told(5), 41);
        due.eq("the fewest UNITS", Due.form(1, 0, 0, -2).told(4), 1);
        due.eq("no PARTS", Due.form(1, 0, 1).told(6), 0);
        due.eq("one PART", Due.form(1, 0, -4).told(6), 1);
        due.eq("the most PARTS", Due.form(1, 0, -2).told(6), 8);
        due.eq("FAMILIES without links: as many as ANSWERS", withoutLinks().told(5), 187);
    }

    @Says(in = "Promise 11", words = "3 how many ANSWERS, 4 UNITS, 5 FAMILIES, 6 PARTS,")
    static void p11WhatIsFoundIsThatOfTheLastChange(Due due) {
        TwoLetterForms x = Due.equation(1, 1, 1, 0, 0);
        due.eq("x^2 = 1", x.told(3), 6);
        due.eq("x^2 = 1", x.told(5), 1);
        x.number(0, 2);
        due.eq("2x^2 = 1", x.told(3), 0);
        x.number(2, 1);
        due.eq("2x^2 + y^2 = 1", x.told(3), 2);
        x.number(2, 2);
        x.equal(2);
        due.eq("2x^2 + 2y^2 = 2", x.told(3), 4);
        x.equal(8);
        due.eq("2x^2 + 2y^2 = 8, the window is 1", x.told(3), 0);
        x.window(2);
        due.eq("2x^2 + 2y^2 = 8, the window is 2", x.told(3), 4);
        x.number(1, 4);
        due.eq("2 (x + y)^2 = 8", x.told(3), 6);
        x.degree(2);
        x.equal(0);
        due.eq("0 = 0", x.told(3), 25);
        due.eq("0 = 0", x.told(5), 3);
        // The same NUMBERS of another degree are another form.
        x.degree(2);
        x.number(0, 1);
        x.equal(-1);
        due.eq("x^2 = -1", x.told(3), 0);
        x.degree(3);
        x.number(0, 1);
        due.eq("x^3 = -1", x.told(3), 5);
        // Here each NUMBER becomes another at once.
        TwoLetterForms all = Due.equation(1, 1, 1, 1, 1, 1, 1);
        due.eq("x^4 + .. + y^4 = 1", all.told(3), 6);
        all.move(4);
        due.eq("-x^4 - .. - y^4 = 1", all.told(3), 0);
    }

    @Says(in = "Promise 11", words = "7 how many CONVERGENTS p, q are ANSWERS (as the two p, q).")
    static void p11ConvergentsThatAreAnswers(Due due) {
        // y (34x - 55y) is 0 at the last one alone, 55/34, and y (21x - 34y) at the last one alone, 34/21.
        due.eq("55 is beyond the window, 34 isn't", Due.equation(0, 40, 0, 34, -55).told(7), 0);
        TwoLetterForms y = Due.equation(0, 40, 0, 21, -34);
        due.eq("34 and 21", y.told(7), 1);
        y.window(34);
        due.eq("at the window's edge", y.told(7), 1);
        y.window(33);
        due.eq("one behind the window's edge", y.told(7), 0);
        due.eq("none: there are no PARTS", Due.equation(1, 40, 1, 0, 1).told(7), 0);
        due.eq("0 by 1: PART 0 of 2t^2 - 1", Due.equation(-1, 1, 2, 0, -1).told(7), 1);
        due.eq("99 by 1 is beyond", Due.equation(0, 40, 0, 0, 0).told(7), 0);
    }

    @Says(in = "Promise 11", words = "7 how many CONVERGENTS p, q are ANSWERS (as the two p, q).")
    static void p11ConvergentsOfWhichSomeOrManyAreAnswers(Due due) {
        // x^2 - 2y^2 is -1, 1, -1, 1, .. at 1/1, 3/2, 7/5, 17/12, 41/29.
        TwoLetterForms x = Due.equation(-1, 40, 1, 0, -2);
        due.eq("1/1 and 7/5; 41/29 is beyond", x.told(7), 2);
        x.equal(1);
        due.eq("3/2 and 17/12", x.told(7), 2);
        x.window(17);
        due.eq("17 at the window's edge", x.told(7), 2);
        x.window(16);
        due.eq("17 behind it", x.told(7), 1);
        x.equal(2);
        due.eq("none", x.told(7), 0);
        // x^2 - xy - y^2 is -1, 1, -1, .. at 1/1, 2/1, 3/2, 5/3, 8/5, 13/8, 21/13, 34/21.
        due.eq("every other one, to the last", Due.equation(1, 40, 1, -1, -1).told(7), 4);
        // 99 and 1 by 99, and so on: numbers far beyond an int's, and their squares far beyond a long's.
        due.eq("the greatest CONVERGENTS", Due.equation(-1, 40, 1, -99, -1).told(7), 0);
    }

    @Says(in = "Promise 11", words = "NONE.")
    static void p11BelowTheFirstAndBehindTheLast(Due due) {
        TwoLetterForms x = new TwoLetterForms();
        for (int what : new int[] {-1, 8, LEAST, MOST}) {
            due.eq("told(" + what + ")", x.told(what), -1);
        }
    }

    // ---- promise 12: value

    @Says(in = "Promise 12", words = "VALUE at x, y (-999 .. 999 each).")
    static void p12TheLeastAndTheGreatestTwos(Due due) {
        long fourth = 999L * 999 * 999 * 999;
        TwoLetterForms x = Due.form(99, 99, 99, 99, 99);
        due.eq("the greatest VALUE", x.value(999, 999), 5 * 99 * fourth);
        due.eq("at the least two", x.value(-999, -999), 5 * 99 * fourth);
        due.eq("at unlike signs", x.value(-999, 999), 99 * fourth);
        due.eq("at unlike signs", x.value(999, -999), 99 * fourth);
        due.eq("x alone", x.value(999, 0), 99 * fourth);
        due.eq("y alone", x.value(0, -999), 99 * fourth);
        due.eq("0 0", x.value(0, 0), 0);
        due.eq("the least VALUE", Due.form(-99, -99, -99, -99, -99).value(999, 999), -5 * 99 * fourth);
        due.eq("odd powers", Due.form(99, 0, 0, 0).value(-999, 999), -99L * 999 * 999 * 999);
    }

    @Says(in = "Promise 12", words = "NO: x, y.")
    static void p12BelowTheLeastAndAboveTheGreatest(Due due) {
        TwoLetterForms x = Due.form(1, 0, 0);
        for (int n : new int[] {-1000, 1000, LEAST, MOST}) {
            due.eq("value(" + n + ", 0)", x.value(n, 0), NO);
            due.eq("value(0, " + n + ")", x.value(0, n), NO);
            due.eq("value(" + n + ", " + n + ")", x.value(n, n), NO);
        }
    }

    // ---- promise 13: answer

    @Says(in = "Promise 13", words = "Of ANSWER i x (what 0), y (1), each and 100, its FAMILY (2);")
    static void p13TheLeastAndTheGreatestTwo(Due due) {
        TwoLetterForms x = Due.equation(0, 40, 0, 0, 0);
        due.eq("the least x", x.answer(0, 0), 60);
        due.eq("the least y", x.answer(0, 1), 60);
        due.eq("the first FAMILY", x.answer(0, 2), 0);
        due.eq("0", x.answer(3280, 0), 100);
        due.eq("0", x.answer(3280, 1), 100);
        due.eq("the greatest x", x.answer(6560, 0), 140);
        due.eq("the greatest y", x.answer(6560, 1), 140);
        due.eq("its FAMILY", x.answer(6560, 2), 0);
        // The last FAMILY of as many as there are ANSWERS.
        TwoLetterForms alone = withoutLinks();
        due.eq("the last ANSWER", alone.answer(186, 2), 186);
    }

    @Says(in = "Promise 13", words = "-5: there are not as many.")
    static void p13BehindTheLast(Due due) {
        TwoLetterForms x = Due.equation(0, 40, 0, 0, 0);
        TwoLetterForms one = Due.equation(0, 40, 1, 0, 1);
        for (int what = 0; what <= 2; what++) {
            due.eq("behind 6560", x.answer(6561, what), -5);
            due.eq("behind the only one", one.answer(1, what), -5);
            due.eq("far behind", x.answer(MOST, what), -5);
        }
        TwoLetterForms none = new TwoLetterForms();
        due.eq("none at all", none.answer(0, 0), -5);
        due.eq("none at all", none.answer(0, 2), -5);
    }

    @Says(in = "Promise 13", words = "NONE: i below 0, what.")
    static void p13BelowTheFirst(Due due) {
        TwoLetterForms x = Due.equation(0, 1, 0, 0, 0);
        for (int n : new int[] {-1, LEAST}) {
            due.eq("answer(" + n + ", 0)", x.answer(n, 0), -1);
            due.eq("answer(" + n + ", 2)", x.answer(n, 2), -1);
            due.eq("answer(0, " + n + ")", x.answer(0, n), -1);
        }
        due.eq("what 3", x.answer(0, 3), -1);
        due.eq("what far above", x.answer(0, MOST), -1);
    }

    // ---- promise 14: prime

    @Says(in = "Promise 14", words = "Of a PRIME p (what 0), REMAINDERS (1), whether it BARS M (2; 1, 0).")
    static void p14TheFirstAndTheLastPrime(Due due) {
        TwoLetterForms x = Due.equation(2310, 10, 0, 0, 0);
        due.eq("the first p", x.prime(0, 0), 2);
        due.eq("the last p", x.prime(5, 0), 13);
        due.eq("the fewest REMAINDERS", x.prime(5, 1), 1);
        due.eq("it doesn't bar", x.prime(0, 2), 0);
        due.eq("it bars", x.prime(5, 2), 1);
        due.eq("the most REMAINDERS", Due.form(0, 1, 0).prime(5, 1), 13);
    }

    @Says(in = "Promise 14", words = "NONE: prime, what.")
    static void p14BelowTheFirstAndBehindTheLast(Due due) {
        TwoLetterForms x = new TwoLetterForms();
        for (int prime : new int[] {-1, 6, LEAST, MOST}) {
            for (int what = 0; what <= 2; what++) {
                due.eq("prime(" + prime + ", " + what + ")", x.prime(prime, what), -1);
            }
        }
        for (int what : new int[] {-1, 3, LEAST, MOST}) {
            due.eq("prime(0, " + what + ")", x.prime(0, what), -1);
            due.eq("prime(5, " + what + ")", x.prime(5, what), -1);
        }
    }

    // ---- promise 15: reason

    @Says(in = "Promise 15", words = "REASON i;")
    static void p15TheFirstAndTheLastReason(Due due) {
        TwoLetterForms x = Due.equation(1, 40, 0, 0, 0);
        due.eq("the first", x.reason(0), 40);
        due.eq("the last", x.reason(2), 1);
        TwoLetterForms y = Due.equation(3, 1, 1, 0, 1);
        due.eq("the first alone", y.reason(0), 1);
    }

    @Says(in = "Promise 15", words = "-5: there are not as many.")
    static void p15BehindTheLast(Due due) {
        TwoLetterForms x = Due.equation(1, 40, 0, 0, 0);
        due.eq("behind three", x.reason(3), -5);
        due.eq("far behind", x.reason(MOST), -5);
        TwoLetterForms y = Due.equation(3, 1, 1, 0, 1);
        due.eq("behind one", y.reason(1), -5);
        due.eq("behind one", y.reason(2), -5);
        y.equal(2);
        for (int i = 0; i <= 3; i++) {
            due.eq("none: reason(" + i + ")", y.reason(i), -5);
        }
    }

    @Says(in = "Promise 15", words = "NONE: i below 0.")
    static void p15BelowTheFirst(Due due) {
        TwoLetterForms x = Due.equation(1, 40, 0, 0, 0);
        due.eq("reason(-1)", x.reason(-1), -1);
        due.eq("reason(least)", x.reason(LEAST), -1);
        x.equal(0);
        due.eq("reason(-1) with ANSWERS", x.reason(-1), -1);
    }

    // ---- promise 16: unit

    @Says(in = "Promise 16", words = "Of UNIT i u (what 0), v (1), w (2), z (3), each and 10;")
    static void p16TheLeastAndTheGreatestNumbers(Due due) {
        TwoLetterForms zeros = new TwoLetterForms();
        boolean[] met = new boolean[4 * 5];
        for (int i = 0; i < 104; i++) {
            for (int what = 0; what < 4; what++) {
                int n = zeros.unit(i, what) - 10;
                due.yes("unit(" + i + ", " + what + ") is -2 .. 2", n >= -2 && n <= 2);
                if (n >= -2 && n <= 2) met[what * 5 + n + 2] = true;
            }
        }
        for (int k = 0; k < met.length; k++) {
            due.yes(k % 5 - 2 + " stands at " + k / 5, met[k]);
        }
    }

    @Says(in = "Promise 16", words = "-5: there are not as many.")
    static void p16BehindTheLast(Due due) {
        TwoLetterForms zeros = new TwoLetterForms();
        TwoLetterForms one = Due.form(1, 0, 0, -2);
        for (int what = 0; what < 4; what++) {
            due.eq("the last of the most", zeros.unit(103, what), what == 0 ? 12 : 11);
            due.eq("behind the most", zeros.unit(104, what), -5);
            due.eq("the only one", one.unit(0, what), what == 0 || what == 3 ? 11 : 10);
            due.eq("behind the only one", one.unit(1, what), -5);
            due.eq("far behind", one.unit(MOST, what), -5);
        }
    }

    @Says(in = "Promise 16", words = "NONE: i below 0, what.")
    static void p16BelowTheFirst(Due due) {
        TwoLetterForms x = Due.form(1, 0, 1);
        for (int n : new int[] {-1, LEAST}) {
            due.eq("unit(" + n + ", 0)", x.unit(n, 0), -1);
            due.eq("unit(0, " + n + ")", x.unit(0, n), -1);
        }
        due.eq("what 4", x.unit(0, 4), -1);
        due.eq("what far above", x.unit(0, MOST), -1);
    }

    // ---- promise 17: family

    @Says(in = "Promise 17", words = "How many ANSWERS FAMILY i has;")
    static void p17TheFewestAndTheMost(Due due) {
        TwoLetterForms zeros = Due.equation(0, 1, 0, 0, 0);
        due.eq("all but 0 0", zeros.family(0), 8);
        due.eq("0 0 alone", zeros.family(1), 1);
        TwoLetterForms most = Due.equation(0, 40, 0, 0, 0);
        int sum = 0;
        for (int i = 0; i <= 40; i++) {
            sum += most.family(i);
        }
        due.eq("together all ANSWERS", sum, 6561);
        // The last FAMILY of as many as there are ANSWERS.
        TwoLetterForms alone = withoutLinks();
        due.eq("the first", alone.family(0), 1);
        due.eq("the last", alone.family(186), 1);
    }

    @Says(in = "Promise 17", words = "-5: there are not as many.")
    static void p17BehindTheLast(Due due) {
        TwoLetterForms x = Due.equation(0, 40, 0, 0, 0);
        due.yes("the last", x.family(40) > 0);
        due.eq("behind the last", x.family(41), -5);
        due.eq("far behind", x.family(MOST), -5);
        due.eq("none at all", new TwoLetterForms().family(0), -5);
        TwoLetterForms alone = withoutLinks();
        due.eq("behind as many as ANSWERS", alone.family(187), -5);
    }

    @Says(in = "Promise 17", words = "NONE: i below 0.")
    static void p17BelowTheFirst(Due due) {
        TwoLetterForms x = Due.equation(0, 2, 0, 0, 0);
        for (int i : new int[] {-1, -2, -3, -4, LEAST}) {
            due.eq("family(" + i + ")", x.family(i), -1);
        }
        due.eq("without ANSWERS", new TwoLetterForms().family(-1), -1);
    }

    // ---- promise 18: part

    @Says(in = "Promise 18", words = "PART k;")
    static void p18TheFirstAndTheLastTheLeastAndTheGreatest(Due due) {
        TwoLetterForms x = Due.form(1, 0, -2);
        due.eq("the first", x.part(0), 1);
        due.eq("the last", x.part(7), 2);
        due.eq("the least", Due.form(2, 0, -1).part(0), 0);
        due.eq("the greatest at first", Due.form(1, -99, -1).part(0), 99);
        due.eq("the greatest at last", Due.form(1, -99, -1).part(7), 99);
    }

    @Says(in = "Promise 18", words = "-5: there are not as many.")
    static void p18BehindTheLast(Due due) {
        TwoLetterForms x = Due.form(1, 0, -2);
        due.eq("behind eight", x.part(8), -5);
        due.eq("far behind", x.part(MOST), -5);
        due.eq("behind one", Due.form(1, 0, -4).part(1), -5);
        due.eq("none at all", Due.form(1, 0, 1).part(0), -5);
    }

    @Says(in = "Promise 18", words = "NONE: k below 0.")
    static void p18BelowTheFirst(Due due) {
        TwoLetterForms x = Due.form(1, 0, -2);
        due.eq("part(-1)", x.part(-1), -1);
        due.eq("part(least)", x.part(LEAST), -1);
        due.eq("without PARTS", Due.form(1, 0, 1).part(-1), -1);
    }

    // ---- promise 19: convergent

    @Says(in = "Promise 19", words = "CONVERGENT k; part 0 above, 1 below the line.")
    static void p19TheFirstAndTheLast(Due due) {
        TwoLetterForms x = Due.form(1, 0, -2);
        due.eq("the first, above", x.convergent(0, 0), 1);
        due.eq("the first, below", x.convergent(0, 1), 1);
        due.eq("the last, above", x.convergent(7, 0), 577);
        due.eq("the last, below", x.convergent(7, 1), 408);
        TwoLetterForms y = Due.form(0, 99, -1);
        due.eq("0 by 1, above", y.convergent(0, 0), 0);
        due.eq("0 by 1, below", y.convergent(0, 1), 1);
        due.eq("1 by 99, above", y.convergent(1, 0), 1);
        due.eq("1 by 99, below", y.convergent(1, 1), 99);
    }

    @Says(in = "Promise 19", words = "NO: k below 0, part, there are not as many.")
    static void p19BelowTheFirstAndBehindTheLast(Due due) {
        TwoLetterForms x = Due.form(1, 0, -2);
        TwoLetterForms one = Due.form(1, 0, -4);
        TwoLetterForms none = Due.form(1, 0, 1);
        for (int part = 0; part <= 1; part++) {
            due.eq("convergent(-1, " + part + ")", x.convergent(-1, part), NO);
            due.eq("convergent(least, " + part + ")", x.convergent(LEAST, part), NO);
            due.eq("convergent(8, " + part + ")", x.convergent(8, part), NO);
            due.eq("convergent(most, " + part + ")", x.convergent(MOST, part), NO);
            due.eq("behind one", one.convergent(1, part), NO);
            due.eq("none at all", none.convergent(0, part), NO);
        }
        for (int part : new int[] {-1, 2, LEAST, MOST}) {
            due.eq("convergent(0, " + part + ")", x.convergent(0, part), NO);
        }
    }
}
