/** Promises 20 to 27: seen, fits, odds, mean, events, books. */
public final class SeenTest {
    private static final Due due = new Due("SeenTest");
    private static final int LEAST = Integer.MIN_VALUE, MOST = Integer.MAX_VALUE;

    public static void main(String[] args) {
        see();
        fits();
        odds();
        mean();
        event();
        after();
        afterRefused();
        book();
        looked();
        due.end();
    }

    private static void see() {
        TwoLetterForms x = new TwoLetterForms();
        due.eq("x 10", x.see(10, 0, 0), -2);
        due.eq("x -10", x.see(-10, 0, 0), -2);
        due.eq("x -99", x.see(-99, 0, 0), -2);
        due.eq("x -101", x.see(-101, 0, 0), -2);
        due.eq("y 10", x.see(0, 10, 0), -2);
        due.eq("y -10", x.see(0, -10, 0), -2);
        due.eq("y -100", x.see(0, -100, 0), -2);
        due.eq("v 10000", x.see(0, 0, 10000), -2);
        due.eq("v -10000", x.see(0, 0, -10000), -2);
        due.eq("least", x.see(LEAST, LEAST, LEAST), -2);
        due.eq("count", x.count(0), 0);
        due.eq("1", x.see(9, -9, 9999), 1);
        due.eq("2", x.see(-9, 9, -9999), 2);
        due.eq("3", x.see(9, -9, 9999), 3);
        due.eq("4", x.see(0, 0, 0), 4);
        due.eq("full", x.see(0, 0, 0), -4);
        due.eq("bad ahead of full", x.see(0, 10, 0), -2);
        due.eq("count", x.count(0), 4);
        due.eq("empty", x.see(-100, MOST, LEAST), 0);
        due.eq("count", x.count(0), 0);
        due.eq("1", x.see(1, 1, 1), 1);
    }

    private static void fits() {
        // x^2 + a xy + 3y^2 at 2, 1 is 7 + 2a.
        TwoLetterForms x = Due.form(1, 0, 3);
        due.eq("nothing seen", x.fits(0, 0), 199);
        due.eq("nothing seen", x.fits(2, 1), 1);
        x.see(2, 1, 17);
        due.eq("a1", x.fits(1, 0), 1);
        due.eq("a1 is 5", x.fits(1, 1), 105);
        due.eq("a0", x.fits(0, 0), 0);
        due.eq("a0", x.fits(0, 1), 0);
        due.eq("a2 is 13", x.fits(2, 1), 113);
        due.eq("fits(3, 0)", x.fits(3, 0), -1);
        due.eq("fits(-1, 0)", x.fits(-1, 0), -1);
        due.eq("fits(0, 2)", x.fits(0, 2), -1);
        due.eq("fits(0, -1)", x.fits(0, -1), -1);
        due.eq("fits(most, 0)", x.fits(MOST, 0), -1);
        due.numbers("changes nothing", x, 1, 0, 3);
        x.see(-1, 1, -1);
        due.eq("both", x.fits(1, 1), 105);
        x.see(-1, 1, 0);
        due.eq("not all", x.fits(1, 0), 0);
        due.eq("not all", x.fits(1, 1), 0);
        // Where y is 0, a2 does not matter: all fit, or none.
        x.see(-100, 0, 0);
        x.see(3, 0, 9);
        due.eq("all", x.fits(2, 0), 199);
        due.eq("all, the least", x.fits(2, 1), 1);
        x.see(3, 0, 8);
        due.eq("none", x.fits(2, 0), 0);
        // The edges: 99 and -99, and 100 beyond.
        x.see(-100, 0, 0);
        x.see(1, 0, 99);
        due.eq("99", x.fits(0, 1), 199);
        x.see(-100, 0, 0);
        x.see(1, 0, -99);
        due.eq("-99", x.fits(0, 1), 1);
        due.eq("-99", x.fits(0, 0), 1);
        x.see(-100, 0, 0);
        x.see(1, 0, 100);
        due.eq("100", x.fits(0, 0), 0);
        x.degree(4);
        due.eq("fits(4, 0)", x.fits(4, 0), 0);
    }

    private static void odds() {
        // x^2 above 1 in -2 .. 2: 2 of 5.
        TwoLetterForms x = Due.form(1, 0, 0);
        x.window(2);
        due.eq("above", x.odds(0), 2);
        due.eq("below", x.odds(1), 5);
        x.equal(-1);
        due.eq("all", x.odds(0), 1);
        due.eq("all", x.odds(1), 1);
        x.equal(4);
        due.eq("M itself is not above", x.odds(0), 0);
        due.eq("M itself is not above", x.odds(1), 1);
        due.eq("odds(2)", x.odds(2), TwoLetterForms.NO);
        due.eq("odds(-1)", x.odds(-1), TwoLetterForms.NO);
        TwoLetterForms y = Due.form(0, 1, 0);
        y.equal(0);
        y.window(1);
        due.eq("2/9", y.odds(0), 2);
        due.eq("2/9", y.odds(1), 9);
        y.window(40);
        due.eq("3200/6561", y.odds(0), 3200);
        due.eq("3200/6561", y.odds(1), 6561);
    }

    private static void mean() {
        TwoLetterForms x = Due.form(1, 0, 0);
        x.window(1);
        due.eq("2/3", x.mean(0), 2);
        due.eq("2/3", x.mean(1), 3);
        x.move(4);
        due.eq("-2/3", x.mean(0), -2);
        due.eq("-2/3", x.mean(1), 3);
        x.window(2);
        due.eq("-2", x.mean(0), -2);
        due.eq("-2", x.mean(1), 1);
        due.eq("mean(2)", x.mean(2), TwoLetterForms.NO);
        due.eq("mean(-1)", x.mean(-1), TwoLetterForms.NO);
        TwoLetterForms cube = Due.form(99, 98, 97, 96);
        due.eq("cubes are 0", cube.mean(0), 0);
        due.eq("by 1", cube.mean(1), 1);
        // x^4: 2 (1 + 16 + 81) by 7.
        TwoLetterForms y = Due.form(99, 0, 0, 0, 0);
        y.window(3);
        due.eq("99 by 196/7", y.mean(0), 2772);
        due.eq("99 by 196/7", y.mean(1), 1);
    }

    private static void event() {
        TwoLetterForms x = Due.form(1, 0, 1);
        for (int what : new int[] {3, -2, LEAST, MOST}) {
            due.eq("event(" + what + ", 0)", x.event(what, 0), -1);
        }
        due.eq("no NUMBER", x.event(0, 3), -1);
        due.eq("no NUMBER", x.event(0, -1), -1);
        due.eq("no MOVE", x.event(1, 5), -1);
        due.eq("no MOVE", x.event(1, -1), -1);
        due.eq("bad", x.event(2, 100), -2);
        due.eq("bad", x.event(2, -100), -2);
        due.eq("bad", x.event(2, LEAST), -2);
        int[] whats = {0, 0, 1, 1, 2, 2, 2, 0};
        int[] ns = {0, 2, 0, 4, 99, -99, 0, 1};
        for (int k = 0; k < 8; k++) {
            due.eq("row " + k, x.event(whats[k], ns[k]), k + 1);
        }
        due.eq("full", x.event(0, 0), -4);
        due.eq("none ahead of full", x.event(0, 3), -1);
        due.eq("bad ahead of full", x.event(2, 100), -2);
        due.eq("count", x.count(1), 8);
        due.eq("empty", x.event(-1, LEAST), 0);
        due.eq("count", x.count(1), 0);
        x.degree(4);
        due.eq("NUMBERS as they are now", x.event(0, 4), 1);
    }

    private static void after() {
        TwoLetterForms x = Due.form(1, 0, 1);
        due.eq("as now", x.after(0), 4);
        due.eq("as now", x.after(1), -5);
        due.eq("as now", x.after(2), 8);
        due.eq("after(3)", x.after(3), -1);
        due.eq("after(-1)", x.after(-1), -1);
        // x^2 + 2y^2 = 1, then = 3.
        x.event(0, 2);
        due.eq("one more", x.after(0), 2);
        due.eq("one more", x.after(2), 4);
        x.event(2, 2);
        due.eq("two more", x.after(0), 4);
        x.event(2, 2);
        due.eq("5", x.after(0), 0);
        due.eq("none of 2 .. 13 bars 5", x.after(1), -5);
        // Turned over: -x^2 - 2y^2 = 5.
        x.event(1, 4);
        due.eq("below 0", x.after(0), 0);
        due.numbers("changes nothing", x, 1, 0, 1);
        due.eq("changes nothing", x.told(1), 10001);
        due.eq("changes nothing", x.told(3), 4);
        due.eq("changes nothing", x.unit(0, 3), 9);
        // Fourth powers by 5: 0, 1; by 13: 0, 1, 3, 9, two of which are never 7.
        TwoLetterForms y = Due.form(1, 0, 0, 0, 1);
        y.event(2, 2);
        due.eq("3 by 5", y.after(1), 5);
        y.event(2, 2);
        y.event(2, 2);
        due.eq("7 by 13", y.after(1), 13);
    }

    private static void afterRefused() {
        TwoLetterForms x = Due.form(99, 0, 99);
        x.event(0, 0);
        due.eq("99 at most", x.after(2), 8);
        due.eq("99 at most", x.after(0), 0);
        x.event(1, 0);
        due.eq("a MOVE beyond", x.after(2), 8);
        x.equal(9950);
        x.window(40);
        x.event(2, 99);
        x.equal(9950);
        due.eq("M beyond", x.after(0), x.told(3));
        x.equal(9900);
        x.event(2, 0);
        due.eq("M 9999: x^2 + y^2 = 101", x.after(0), 8);
        x.equal(-9999);
        x.event(-1, 0);
        x.event(2, -1);
        x.event(1, 4);
        due.eq("M -9999: -x^2 - y^2 = -101", x.after(0), 8);
        // NUMBER 4 was there when it was told.
        TwoLetterForms y = Due.form(0, 0, 0, 0, 0);
        y.event(0, 4);
        y.event(0, 2);
        y.event(0, 0);
        y.degree(2);
        due.eq("only where there is one", y.after(2), 8);
        due.eq("only where there is one", y.after(0), 4);
        y.degree(3);
        due.eq("x^3 + x y^2", y.after(0), 1);
    }

    private static void book() {
        TwoLetterForms x = Due.form(1, 2, 3);
        due.eq("i", x.book(3, 0), -1);
        due.eq("i", x.book(-2, 0), -1);
        due.eq("i ahead of a", x.book(3, 100), -1);
        due.eq("a", x.book(2, 100), -2);
        due.eq("a", x.book(2, -100), -2);
        due.eq("a", x.book(2, MOST), -2);
        for (int k = 1; k <= 8; k++) {
            due.eq("row " + k, x.book(k % 3, k % 2 == 0 ? 99 : -99), k);
        }
        due.eq("full", x.book(0, 0), -4);
        due.eq("bad ahead of full", x.book(0, 100), -2);
        due.eq("none ahead of full", x.book(3, 0), -1);
        due.eq("count", x.count(2), 8);
        due.eq("empty", x.book(-1, LEAST), 0);
        due.eq("count", x.count(2), 0);
    }

    private static void looked() {
        TwoLetterForms x = Due.form(1, 2, 3, 4);
        due.eq("nothing", x.looked(), -5);
        x.book(0, 1);
        x.book(3, 4);
        due.eq("all as told", x.looked(), -5);
        x.number(3, 5);
        due.eq("otherwise", x.looked(), 1);
        x.number(0, 0);
        due.eq("the first", x.looked(), 0);
        x.degree(2);
        x.number(0, 1);
        due.eq("isn't there", x.looked(), 1);
        x.book(-1, 0);
        x.degree(4);
        x.book(4, 0);
        due.eq("0 is there", x.looked(), -5);
        x.degree(3);
        due.eq("0 isn't there", x.looked(), 0);
    }
}
