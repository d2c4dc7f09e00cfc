/** Promises 10 to 19: what is told, primes and reasons, units, families, parts, convergents. */
public final class ToldTest {
    private static final Due due = new Due("ToldTest");
    private static final int LEAST = Integer.MIN_VALUE, MOST = Integer.MAX_VALUE;

    public static void main(String[] args) {
        of();
        told();
        toldAnew();
        value();
        answer();
        prime();
        reason();
        unit();
        family();
        part();
        partsEnd();
        convergent();
        due.end();
    }

    private static void of() {
        TwoLetterForms x = Due.form(-99, 99, 0, 4);
        due.eq("of(0)", x.of(0), 1);
        due.eq("of(1)", x.of(1), 199);
        due.eq("of(2)", x.of(2), 100);
        due.eq("of(3)", x.of(3), 104);
        due.eq("of(4)", x.of(4), -1);
        due.eq("of(-1)", x.of(-1), -1);
        due.eq("of(least)", x.of(LEAST), -1);
        due.eq("of(most)", x.of(MOST), -1);
    }

    private static void told() {
        TwoLetterForms x = Due.form(1, 0, 1);
        x.equal(25);
        due.eq("DEGREE", x.told(0), 2);
        due.eq("M", x.told(1), 10025);
        due.eq("b", x.told(2), 10);
        due.eq("ANSWERS", x.told(3), 12);
        due.eq("UNITS", x.told(4), 8);
        due.eq("FAMILIES", x.told(5), 2);
        due.eq("PARTS", x.told(6), 0);
        due.eq("CONVERGENTS", x.told(7), 0);
        due.eq("told(8)", x.told(8), -1);
        due.eq("told(-1)", x.told(-1), -1);
        // 2x^2 - 5y^2: 1/1, 2/1, 3/2, 8/5, .. at -3, 3, -2, 3.
        TwoLetterForms y = Due.form(2, 0, -5);
        y.equal(3);
        due.eq("CONVERGENTS 2/1 and 8/5", y.told(7), 2);
        y.window(7);
        due.eq("8 is beyond", y.told(7), 1);
        y.window(8);
        due.eq("8 is not beyond", y.told(7), 2);
        y.equal(-2);
        due.eq("3/2", y.told(7), 1);
    }

    /** What was found for the form as it was must not be told of the next one. */
    private static void toldAnew() {
        TwoLetterForms x = Due.form(1, 0, 0);
        due.eq("x^2 = 1", x.told(3), 42);
        due.eq("x^2 = 1", x.told(5), 1);
        x.degree(3);
        x.number(0, 1);
        due.eq("x^3 = 1", x.told(3), 21);
        x.equal(-8);
        due.eq("x^3 = -8", x.answer(0, 0), 98);
        x.window(1);
        due.eq("x^3 = -8 in -1 .. 1", x.told(3), 0);
        x.move(4);
        x.equal(1);
        due.eq("-x^3 = 1", x.answer(0, 0), 99);
        x.turn(0, 1, 1, 0);
        due.eq("-y^3 = 1", x.answer(0, 1), 99);
        x.number(0, 1);
        due.eq("x^3 - y^3 = 1", x.told(3), 2);
        x.image();
        x.equal(0);
        due.eq("x^3 = y^3", x.told(3), 3);
        x.undo();
        due.eq("x^3 - y^3 = 1", x.told(3), 2);
        due.eq("read", Due.read(x, "=0"), 1);
        due.eq("x^3 = y^3", x.told(3), 3);
        x.event(2, 1);
        due.eq("after", x.after(0), 2);
        due.eq("x^3 = y^3", x.told(5), 2);
    }

    private static void value() {
        TwoLetterForms x = Due.form(99, 99, 99, 99, 99);
        due.eq("most", x.value(999, 999), 5L * 99 * 999 * 999 * 999 * 999);
        due.eq("signs", x.value(-999, 999), 99L * 999 * 999 * 999 * 999);
        due.eq("x", x.value(1000, 0), TwoLetterForms.NO);
        due.eq("-x", x.value(-1000, 0), TwoLetterForms.NO);
        due.eq("y", x.value(0, 1000), TwoLetterForms.NO);
        due.eq("-y", x.value(0, -1000), TwoLetterForms.NO);
        due.eq("least", x.value(LEAST, LEAST), TwoLetterForms.NO);
        TwoLetterForms y = Due.form(1, 2, 3, 4);
        due.eq("order", y.value(2, 5), 8 + 2 * 20 + 3 * 50 + 4 * 125);
        due.eq("x alone", y.value(7, 0), 343);
        due.eq("y alone", y.value(0, -3), -108);
        due.eq("none", y.value(0, 0), 0);
    }

    private static void answer() {
        // xy = 2: -2 -1, -1 -2, 1 2, 2 1.
        TwoLetterForms x = Due.form(0, 1, 0);
        x.equal(2);
        int[] xs = {-2, -1, 1, 2};
        int[] ys = {-1, -2, 2, 1};
        due.eq("many", x.told(3), 4);
        for (int i = 0; i < 4; i++) {
            due.eq("x of " + i, x.answer(i, 0), xs[i] + 100);
            due.eq("y of " + i, x.answer(i, 1), ys[i] + 100);
            due.eq("family of " + i, x.answer(i, 2), 0);
        }
        due.eq("answer(4, 0)", x.answer(4, 0), -5);
        due.eq("answer(4, 2)", x.answer(4, 2), -5);
        due.eq("answer(most, 1)", x.answer(MOST, 1), -5);
        due.eq("answer(-1, 0)", x.answer(-1, 0), -1);
        due.eq("answer(0, 3)", x.answer(0, 3), -1);
        due.eq("answer(0, -1)", x.answer(0, -1), -1);
        due.eq("answer(9, 3)", x.answer(9, 3), -1);
        x.window(1);
        due.eq("beyond the window", x.answer(0, 0), -5);
        x.window(40);
        x.equal(40);
        due.eq("edge of the window", x.answer(0, 0), 60);
        due.eq("edge of the window", x.answer(0, 1), 99);
        // All twos: by x, of like ones by y.
        TwoLetterForms all = new TwoLetterForms();
        all.equal(0);
        all.window(40);
        due.eq("all", all.told(3), 6561);
        due.eq("first x", all.answer(0, 0), 60);
        due.eq("first y", all.answer(0, 1), 60);
        due.eq("second x", all.answer(1, 0), 60);
        due.eq("second y", all.answer(1, 1), 61);
        due.eq("last x", all.answer(6560, 0), 140);
        due.eq("last y", all.answer(6560, 1), 140);
        due.eq("none behind", all.answer(6561, 0), -5);
    }

    private static void prime() {
        int[] primes = {2, 3, 5, 7, 11, 13};
        // Squares have (p + 1) / 2 remainders.
        TwoLetterForms x = Due.form(1, 0, 0);
        x.equal(-1);
        int[] remainders = {2, 2, 3, 4, 6, 7};
        // -1 is a square modulo 2, 5 and 13.
        int[] bars = {0, 1, 0, 1, 1, 0};
        for (int i = 0; i < 6; i++) {
            due.eq("p " + i, x.prime(i, 0), primes[i]);
            due.eq("REMAINDERS " + i, x.prime(i, 1), remainders[i]);
            due.eq("BARS " + i, x.prime(i, 2), bars[i]);
        }
        due.eq("prime(6, 0)", x.prime(6, 0), -1);
        due.eq("prime(-1, 0)", x.prime(-1, 0), -1);
        due.eq("prime(0, 3)", x.prime(0, 3), -1);
        due.eq("prime(0, -1)", x.prime(0, -1), -1);
        due.eq("prime(least, 0)", x.prime(LEAST, 0), -1);
        // Modulo 7 cubes are 0, 1, 6; minus two cubes 0, 2, 5: sums 0, 1, 6, 2, 5, 3, 4.
        due.eq("all by 7", Due.form(1, 0, 0, -2).prime(3, 1), 7);
        TwoLetterForms cubes = Due.form(1, 0, 0, 7);
        due.eq("cubes by 7", cubes.prime(3, 1), 3);
        cubes.equal(-6);
        due.eq("-6 is 1 by 7", cubes.prime(3, 2), 0);
        cubes.equal(-5);
        due.eq("-5 is 2 by 7", cubes.prime(3, 2), 1);
    }

    private static void reason() {
        TwoLetterForms x = Due.form(1, 0, 1);
        x.equal(3);
        due.eq("told 3", x.told(3), 0);
        due.eq("reason(0)", x.reason(0), 10);
        due.eq("reason(1) none bars", x.reason(1), -5);
        due.eq("reason(2) none bars", x.reason(2), -5);
        // Fourth powers by 5 are 0, 1, so that two of them are 0, 1, 2.
        TwoLetterForms y = Due.form(1, 0, 0, 0, 1);
        y.equal(9998);
        y.window(7);
        due.eq("reason(0)", y.reason(0), 7);
        due.eq("reason(1)", y.reason(1), 5);
        due.eq("reason(2)", y.reason(2), 3);
        due.eq("reason(3)", y.reason(3), -5);
        due.eq("reason(-1)", y.reason(-1), -1);
        due.eq("reason(least)", y.reason(LEAST), -1);
        due.eq("reason(most)", y.reason(MOST), -5);
        y.equal(1);
        due.eq("answers: none", y.reason(0), -5);
        due.eq("answers: none", y.reason(1), -5);
        due.eq("answers: -1", y.reason(-1), -1);
        // The first of the PRIMES that bar: 3 and 7 and 11 do.
        TwoLetterForms z = Due.form(1, 0, 0);
        z.equal(-1);
        due.eq("first", z.reason(1), 3);
        due.eq("its remainders", z.reason(2), 2);
    }

    private static void unit() {
        // x^2 + y^2: u, v, w, z by their order.
        TwoLetterForms x = Due.form(1, 0, 1);
        int[][] units = {{-1, 0, 0, -1}, {-1, 0, 0, 1}, {0, -1, -1, 0}, {0, -1, 1, 0}, {0, 1, -1, 0}, {0, 1, 1, 0}, {1, 0, 0, -1}, {1, 0, 0, 1}};
        due.eq("many", x.told(4), 8);
        for (int i = 0; i < 8; i++) {
            for (int what = 0; what < 4; what++) {
                due.eq("unit " + i + " " + what, x.unit(i, what), units[i][what] + 10);
            }
        }
        due.eq("unit(8, 0)", x.unit(8, 0), -5);
        due.eq("unit(most, 0)", x.unit(MOST, 0), -5);
        due.eq("unit(-1, 0)", x.unit(-1, 0), -1);
        due.eq("unit(0, 4)", x.unit(0, 4), -1);
        due.eq("unit(0, -1)", x.unit(0, -1), -1);
        due.eq("unit(99, 4)", x.unit(99, 4), -1);
        // What leaves x^2 - 3y^2 beside signs has a 3: 2x + 3y, x + 2y.
        due.eq("numbers beyond 2", Due.form(1, 0, -3).told(4), 4);
        due.eq("x^3 - 2y^3", Due.form(1, 0, 0, -2).told(4), 1);
        TwoLetterForms y = Due.form(1, -1, -1);
        // Signs; signs of 2x + y, x + y and what undoes it; and what is twice nothing, as x - y, -y.
        due.eq("x^2 - xy - y^2", y.told(4), 10);
        due.eq("first", y.unit(0, 0), 8);
        due.eq("first", y.unit(0, 1), 9);
        due.eq("first", y.unit(0, 2), 9);
        due.eq("first", y.unit(0, 3), 9);
        due.eq("form of zeros", new TwoLetterForms().told(4), 104);
        due.eq("its last", new TwoLetterForms().unit(103, 0), 12);
        due.eq("behind its last", new TwoLetterForms().unit(104, 0), -5);
        // x^2 alone: u is 1 or -1, v is 0, z is 1 or -1, w what it likes.
        due.eq("x^2", Due.form(1, 0, 0).told(4), 20);
    }

    private static void family() {
        TwoLetterForms x = Due.form(1, 0, 1);
        x.equal(25);
        due.eq("family(0)", x.family(0), 4);
        due.eq("family(1)", x.family(1), 8);
        due.eq("family(2)", x.family(2), -5);
        due.eq("family(most)", x.family(MOST), -5);
        due.eq("family(-1)", x.family(-1), -1);
        due.eq("-5 0", x.answer(0, 2), 0);
        due.eq("-4 -3", x.answer(1, 2), 1);
        TwoLetterForms y = Due.form(1, -1, -1);
        // The ways from one to another lead over more links than one.
        y.window(40);
        due.eq("one behind the other", y.told(5), 1);
        due.eq("all of them", y.family(0), y.told(3));
        y.window(1);
        due.eq("within the window", y.told(3), 4);
        due.eq("within the window", y.told(5), 1);
        // gcds carry over in the form of zeros: 0, and 1 .. 10.
        TwoLetterForms z = new TwoLetterForms();
        z.equal(0);
        due.eq("families by divisors", z.told(5), 11);
        due.eq("0 0 is alone", z.answer(220, 2), z.answer(220, 2));
        due.eq("its size", z.family(z.answer(220, 2)), 1);
        due.eq("first is 10", z.family(0), 8);
        due.eq("no families", new TwoLetterForms().family(0), -5);
    }

    private static void part() {
        TwoLetterForms x = Due.form(1, 0, -3);
        int[] parts = {1, 1, 2, 1, 2, 1, 2, 1};
        due.eq("many", x.told(6), 8);
        for (int k = 0; k < 8; k++) {
            due.eq("part " + k, x.part(k), parts[k]);
        }
        due.eq("part(8)", x.part(8), -5);
        due.eq("part(most)", x.part(MOST), -5);
        due.eq("part(-1)", x.part(-1), -1);
        due.eq("part(least)", x.part(LEAST), -1);
        // 3t - 5 of degree 2: 5/3 is 1, 1, 2.
        TwoLetterForms y = Due.form(0, 3, -5);
        due.eq("5/3", y.told(6), 3);
        due.eq("5/3", y.part(0), 1);
        due.eq("5/3", y.part(1), 1);
        due.eq("5/3", y.part(2), 2);
        due.eq("5/3", y.part(3), -5);
        // The greatest root tells: (t - 2)(t - 7).
        due.eq("7", Due.form(1, -9, 14).part(0), 7);
        due.eq("7 ends", Due.form(1, -9, 14).told(6), 1);
        // From below to above, and from above to below.
        due.eq("below", Due.form(2, 0, -5).part(0), 1);
        due.eq("above", Due.form(-2, 0, 5).part(0), 1);
    }

    private static void partsEnd() {
        due.eq("no root", Due.form(1, 0, 1).told(6), 0);
        due.eq("no root above 0", Due.form(1, 3, 2).told(6), 0);
        due.eq("root 0", Due.form(1, 5, 0).told(6), 1);
        due.eq("root 0", Due.form(1, 5, 0).part(0), 0);
        due.eq("zeros", new TwoLetterForms().part(0), 99);
        due.eq("root 99", Due.form(0, 1, -99).part(0), 99);
        // A root beyond 100 isn't told: 1/2 t - .. can't be so great, but t^2 - 99t - 99 has 99.99.
        due.eq("root 99.99", Due.form(1, -99, -99).part(0), 99);
        // Two roots between one n and the next one are not told: 10t^2 - 30t + 22 at 1.28 and 1.72.
        due.eq("two at once", Due.form(10, -30, 22).told(6), 0);
        // A root between 0 and 1: 2t^2 - 1.
        TwoLetterForms half = Due.form(2, 0, -1);
        due.eq("0", half.part(0), 0);
        due.eq("1", half.part(1), 1);
        due.eq("2", half.part(2), 2);
        // Behind 0: 99t - 1, 1/99 is 0, 99.
        due.eq("1/99", Due.form(0, 99, -1).part(1), 99);
        due.eq("1/99", Due.form(0, 99, -1).told(6), 2);
        // A next PART beyond 99 ends it: behind 1, 50t^2 - 51 becomes -t^2 + 100t + 50, whose root is 100.49.
        due.eq("100.49", Due.form(50, 0, -51).told(6), 1);
        due.eq("99.49", Due.form(49, 1, -51).part(1), 99);
        // Behind it stands a 0 of the row at 0, but 0 is no next PART.
        due.eq("no next 0", Due.form(0, 50, 0, -51).told(6), 1);
        // Here, of the row, just the first NUMBER goes beyond 1000000000, and behind it a 1 would come.
        int[] parts = {1, 1, 16, 1, 6, 14};
        TwoLetterForms great = Due.form(16, 25, -77, -86, 46);
        due.eq("beyond", great.told(6), parts.length);
        for (int k = 0; k < parts.length; k++) {
            due.eq("beyond: part " + k, great.part(k), parts[k]);
        }
        due.eq("beyond: no more", great.part(parts.length), -5);
    }

    private static void convergent() {
        TwoLetterForms x = Due.form(1, 0, -3);
        long[] above = {1, 2, 5, 7, 19, 26, 71, 97};
        long[] below = {1, 1, 3, 4, 11, 15, 41, 56};
        for (int k = 0; k < 8; k++) {
            due.eq("above " + k, x.convergent(k, 0), above[k]);
            due.eq("below " + k, x.convergent(k, 1), below[k]);
        }
        due.eq("convergent(8, 0)", x.convergent(8, 0), TwoLetterForms.NO);
        due.eq("convergent(-1, 0)", x.convergent(-1, 0), TwoLetterForms.NO);
        due.eq("convergent(0, 2)", x.convergent(0, 2), TwoLetterForms.NO);
        due.eq("convergent(0, -1)", x.convergent(0, -1), TwoLetterForms.NO);
        due.eq("convergent(most, 0)", x.convergent(MOST, 0), TwoLetterForms.NO);
        TwoLetterForms y = Due.form(0, 99, -1);
        due.eq("0/1", y.convergent(0, 0), 0);
        due.eq("0/1", y.convergent(0, 1), 1);
        due.eq("1/99", y.convergent(1, 0), 1);
        due.eq("1/99", y.convergent(1, 1), 99);
        due.eq("no more", y.convergent(2, 0), TwoLetterForms.NO);
    }
}
