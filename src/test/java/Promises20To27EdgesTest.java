/** Promises 20 to 27: a test for each sentence, and for each case at its edge. */
public final class Promises20To27EdgesTest {
    private static final int LEAST = Edges.LEAST, MOST = Edges.MOST;

    public static void main(String[] args) {
        Edges.run(Promises20To27EdgesTest.class);
    }

    // ---- promise 20: see

    @Says(in = "Promise 20", words = "What is SEEN comes: how many there are")
    static void p20FromOneTo4(Due due) {
        TwoLetterForms x = new TwoLetterForms();
        due.eq("the least", x.see(-9, -9, -9999), 1);
        due.eq("the greatest", x.see(9, 9, 9999), 2);
        due.eq("the same again", x.see(9, 9, 9999), 3);
        due.eq("the fourth", x.see(0, 0, 0), 4);
    }

    @Says(in = "Promise 20", words = "(x -100: none then, 0, whatever the rest is).")
    static void p20XMinus100EmptiesWhateverTheRestIs(Due due) {
        TwoLetterForms x = new TwoLetterForms();
        int[] rests = {0, 10, -10, 10000, LEAST, MOST};
        for (int rest : rests) {
            x.see(1, 1, 1);
            x.see(1, 1, 2);
            due.eq("see(-100, " + rest + ", " + rest + ")", x.see(-100, rest, rest), 0);
            due.eq("none", x.count(0), 0);
            due.eq("all fit", x.fits(0, 0), 199);
        }
        due.eq("none already", x.see(-100, 0, 0), 0);
        for (int k = 1; k <= 4; k++) {
            x.see(1, 1, 1);
        }
        due.eq("full", x.see(-100, 0, 0), 0);
        due.eq("there is room again", x.see(1, 1, 1), 1);
    }

    @Says(in = "Promise 20", words = "BAD: x, y, v;")
    static void p20BelowTheLeastAndAboveTheGreatest(Due due) {
        TwoLetterForms x = new TwoLetterForms();
        x.see(1, 1, 1);
        for (int n : new int[] {-10, 10, -99, -101, 100, LEAST, MOST}) {
            due.eq("x " + n, x.see(n, 0, 0), -2);
            due.eq("y " + n, x.see(0, n, 0), -2);
        }
        due.eq("y -100 empties nothing", x.see(0, -100, 0), -2);
        for (int v : new int[] {-10000, 10000, LEAST, MOST}) {
            due.eq("v " + v, x.see(0, 0, v), -2);
        }
        due.eq("refused", x.count(0), 1);
    }

    @Says(in = "Promise 20", words = "FULL: 4.")
    static void p20TheFifthIsRefused(Due due) {
        TwoLetterForms x = new TwoLetterForms();
        for (int k = 1; k <= 4; k++) {
            due.eq("row " + k, x.see(0, 0, 0), k);
        }
        due.eq("row 5", x.see(0, 0, 0), -4);
        due.eq("row 5", x.see(0, 0, 1), -4);
        due.eq("refused", x.count(0), 4);
        due.eq("the four are so", x.fits(0, 0), 199);
    }

    // ---- promise 21: fits

    @Says(in = "Promise 21", words = "FITS: what 0 how many, 1 100 more than the least (0).")
    static void p21HowManyAndTheLeast(Due due) {
        TwoLetterForms x = Due.form(1, 2, 3, 4, 5);
        due.eq("the most", x.fits(0, 0), 199);
        due.eq("the least of all", x.fits(4, 1), 1);
        x.see(0, 1, 99);
        due.eq("one", x.fits(4, 0), 1);
        due.eq("the greatest there is", x.fits(4, 1), 199);
        due.eq("none", x.fits(0, 0), 0);
        due.eq("none", x.fits(0, 1), 0);
        due.numbers("asked, so that all stays", x, 1, 2, 3, 4, 5);
    }

    @Says(in = "Promise 21", words = "NONE: i, what.")
    static void p21BelowTheFirstAndBehindTheLast(Due due) {
        TwoLetterForms x = new TwoLetterForms();
        for (int d = 2; d <= 4; d++) {
            x.degree(d);
            due.eq("the last NUMBER of degree " + d, x.fits(d, 0), 199);
            due.eq("behind the last of degree " + d, x.fits(d + 1, 0), -1);
            due.eq("below the first", x.fits(-1, 0), -1);
        }
        for (int n : new int[] {LEAST, MOST, -100}) {
            due.eq("i " + n, x.fits(n, 1), -1);
            due.eq("what " + n, x.fits(0, n), -1);
        }
        due.eq("what -1", x.fits(0, -1), -1);
        due.eq("what 2", x.fits(0, 2), -1);
    }

    // ---- promises 22, 23: odds, mean

    @Says(in = "Promise 22", words = "ODDS; part likewise.")
    static void p22AboveAndBelowTheLine(Due due) {
        TwoLetterForms x = Due.equation(0, 1, 0, 1, 0);
        due.eq("part 0", x.odds(0), 2);
        due.eq("part 1", x.odds(1), 9);
        x.window(40);
        due.eq("the greatest window, part 0", x.odds(0), 3200);
        due.eq("the greatest window, part 1", x.odds(1), 6561);
        x.equal(9999);
        due.eq("none, part 0", x.odds(0), 0);
        due.eq("none, part 1", x.odds(1), 1);
        x.equal(-9999);
        due.eq("all, part 0", x.odds(0), 1);
        due.eq("all, part 1", x.odds(1), 1);
    }

    @Says(in = "Promise 22", words = "NO: part.")
    static void p22BelowTheFirstAndBehindTheLastPart(Due due) {
        TwoLetterForms x = Due.equation(0, 1, 0, 1, 0);
        for (int part : new int[] {-1, 2, LEAST, MOST}) {
            due.eq("odds(" + part + ")", x.odds(part), Edges.NO);
        }
    }

    @Says(in = "Promise 23", words = "MEAN; part likewise.")
    static void p23AboveAndBelowTheLine(Due due) {
        TwoLetterForms x = Due.equation(1, 1, -1, 0, 0);
        due.eq("below 0, part 0", x.mean(0), -2);
        due.eq("below 0, part 1", x.mean(1), 3);
        TwoLetterForms zeros = Due.equation(1, 40, 0, 0, 0);
        due.eq("0, part 0", zeros.mean(0), 0);
        due.eq("0, part 1", zeros.mean(1), 1);
        // x^2 in the greatest window: 40 41 by 3.
        TwoLetterForms square = Due.equation(1, 40, 3, 0, 0);
        due.eq("the greatest window, part 0", square.mean(0), 1640);
        due.eq("the greatest window, part 1", square.mean(1), 1);
    }

    @Says(in = "Promise 23", words = "NO: part.")
    static void p23BelowTheFirstAndBehindTheLastPart(Due due) {
        TwoLetterForms x = Due.equation(0, 1, 1, 0, 0);
        for (int part : new int[] {-1, 2, LEAST, MOST}) {
            due.eq("mean(" + part + ")", x.mean(part), Edges.NO);
        }
    }

    // ---- promise 24: event

    @Says(in = "Promise 24", words = "A row comes to EVENTS: how many there are")
    static void p24FromOneTo8(Due due) {
        TwoLetterForms x = new TwoLetterForms();
        int[][] rows = {{0, 0}, {0, 3}, {1, 0}, {1, 4}, {2, -99}, {2, 99}, {2, 0}, {2, 0}};
        for (int k = 0; k < rows.length; k++) {
            due.eq("row " + k, x.event(rows[k][0], rows[k][1]), k + 1);
        }
        due.eq("count", x.count(1), 8);
    }

    @Says(in = "Promise 24", words = "(what -1: none then, 0, whatever the rest is).")
    static void p24WhatMinus1EmptiesWhateverTheRestIs(Due due) {
        TwoLetterForms x = new TwoLetterForms();
        for (int n : new int[] {0, -1, 100, -100, LEAST, MOST}) {
            x.event(2, 99);
            x.event(0, 0);
            due.eq("event(-1, " + n + ")", x.event(-1, n), 0);
            due.eq("none", x.count(1), 0);
            due.eq("nothing happens: the zeros stay", x.after(2), 104);
        }
        due.eq("none already", x.event(-1, 0), 0);
        for (int k = 1; k <= 8; k++) {
            x.event(0, 0);
        }
        due.eq("full", x.event(-1, 0), 0);
        due.eq("there is room again", x.event(0, 0), 1);
    }

    @Says(in = "Promise 24", words = "NONE: what (0 .. 2),")
    static void p24BelowTheFirstAndBehindTheLastWhat(Due due) {
        TwoLetterForms x = new TwoLetterForms();
        for (int what : new int[] {-2, 3, -100, LEAST, MOST}) {
            due.eq("event(" + what + ", 0)", x.event(what, 0), -1);
        }
        due.eq("refused", x.count(1), 0);
        due.eq("the first", x.event(0, 0), 1);
        due.eq("the last", x.event(2, 0), 2);
    }

    @Says(in = "Promise 24", words = "NUMBER n as they are now (0),")
    static void p24NumbersAsTheyAreNow(Due due) {
        TwoLetterForms x = new TwoLetterForms();
        int many = 0;
        for (int d = 2; d <= 4; d++) {
            x.degree(d);
            due.eq("the last of degree " + d, x.event(0, d), ++many);
            due.eq("behind the last of degree " + d, x.event(0, d + 1), -1);
        }
        for (int n : new int[] {-1, LEAST, MOST}) {
            due.eq("event(0, " + n + ")", x.event(0, n), -1);
        }
        x.degree(2);
        due.eq("they were there, but aren't now", x.event(0, 3), -1);
        due.eq("refused", x.count(1), 3);
    }

    @Says(in = "Promise 24", words = "MOVE n (1);")
    static void p24BelowTheFirstAndBehindTheLastMove(Due due) {
        TwoLetterForms x = new TwoLetterForms();
        due.eq("the first", x.event(1, 0), 1);
        due.eq("the last", x.event(1, 4), 2);
        for (int n : new int[] {-1, 5, LEAST, MOST}) {
            due.eq("event(1, " + n + ")", x.event(1, n), -1);
        }
        due.eq("refused", x.count(1), 2);
        TwoLetterForms edge = Due.form(99, 0, 0);
        due.eq("a MOVE that would be refused now may be told", edge.event(1, 0), 1);
    }

    @Says(in = "Promise 24", words = "BAD: n (2: -99 .. 99);")
    static void p24BelowTheLeastAndAboveTheGreatestForM(Due due) {
        TwoLetterForms x = new TwoLetterForms();
        due.eq("the least", x.event(2, -99), 1);
        due.eq("the greatest", x.event(2, 99), 2);
        for (int n : new int[] {-100, 100, LEAST, MOST}) {
            due.eq("event(2, " + n + ")", x.event(2, n), -2);
        }
        due.eq("refused", x.count(1), 2);
        x.equal(9999);
        due.eq("what would be beyond now may be told", x.event(2, 99), 3);
    }

    @Says(in = "Promise 24", words = "FULL: 8.")
    static void p24TheNinthIsRefused(Due due) {
        TwoLetterForms x = Due.form(0, 0, 0);
        for (int k = 1; k <= 8; k++) {
            due.eq("row " + k, x.event(2, 0), k);
        }
        due.eq("row 9", x.event(0, 0), -4);
        due.eq("row 9", x.event(1, 4), -4);
        due.eq("row 9", x.event(2, 99), -4);
        due.eq("refused", x.count(1), 8);
        due.eq("the ninth doesn't happen", x.after(2), 104);
    }

    // ---- promise 25: after

    @Says(in = "Promise 25", words = "AFTER: what 0 how many ANSWERS, 1 the first PRIME that BARS M (-5), 2 how many UNITS.")
    static void p25FromNoneToAll(Due due) {
        TwoLetterForms x = Due.equation(-8, 40, 0, 0, 0);
        due.eq("no ANSWERS", x.after(0), 0);
        due.eq("the first PRIME", x.after(1), 3);
        due.eq("the most UNITS", x.after(2), 104);
        x.event(2, 8);
        due.eq("the most ANSWERS", x.after(0), 6561);
        due.eq("no PRIME", x.after(1), -5);
        x.event(-1, 0);
        x.degree(3);
        x.number(3, -2);
        x.event(0, 0);
        due.eq("the fewest UNITS: x^3 - 2y^3", x.after(2), 1);
    }

    @Says(in = "Promise 25", words = "NONE.")
    static void p25BelowTheFirstAndBehindTheLast(Due due) {
        TwoLetterForms x = new TwoLetterForms();
        for (int what : new int[] {-1, 3, LEAST, MOST}) {
            due.eq("after(" + what + ")", x.after(what), -1);
        }
    }

    // ---- promise 26: book

    @Says(in = "Promise 26", words = "A row comes to the BOOK: how many there are")
    static void p26FromOneTo8(Due due) {
        TwoLetterForms x = Due.form(-99, 0, 99);
        int[][] rows = {{0, -99}, {2, 99}, {1, 0}, {0, -99}, {0, -99}, {0, -99}, {0, -99}, {0, 99}};
        for (int k = 0; k < rows.length; k++) {
            due.eq("row " + k, x.book(rows[k][0], rows[k][1]), k + 1);
        }
        due.eq("count", x.count(2), 8);
        due.eq("the eighth is otherwise", x.looked(), 7);
    }

    @Says(in = "Promise 26", words = "(i -1: it is empty then, 0, whatever the rest is).")
    static void p26IMinus1EmptiesWhateverTheRestIs(Due due) {
        TwoLetterForms x = new TwoLetterForms();
        for (int a : new int[] {0, 99, 100, -100, LEAST, MOST}) {
            x.book(0, 1);
            x.book(0, 2);
            due.eq("book(-1, " + a + ")", x.book(-1, a), 0);
            due.eq("empty", x.count(2), 0);
            due.eq("nothing to look at", x.looked(), -5);
        }
        due.eq("empty already", x.book(-1, 0), 0);
        for (int k = 1; k <= 8; k++) {
            x.book(0, 0);
        }
        due.eq("full", x.book(-1, 0), 0);
        due.eq("there is room again", x.book(0, 0), 1);
    }

    @Says(in = "Promise 26", words = "NONE: i;")
    static void p26BelowTheFirstAndBehindTheLastNumber(Due due) {
        TwoLetterForms x = new TwoLetterForms();
        int many = 0;
        for (int d = 2; d <= 4; d++) {
            x.degree(d);
            due.eq("the last of degree " + d, x.book(d, 0), ++many);
            due.eq("behind the last of degree " + d, x.book(d + 1, 0), -1);
        }
        for (int i : new int[] {-2, -100, LEAST, MOST}) {
            due.eq("book(" + i + ", 0)", x.book(i, 0), -1);
        }
        due.eq("refused", x.count(2), 3);
    }

    @Says(in = "Promise 26", words = "BAD: a (-99 .. 99);")
    static void p26BelowTheLeastAndAboveTheGreatest(Due due) {
        TwoLetterForms x = new TwoLetterForms();
        due.eq("the least", x.book(0, -99), 1);
        due.eq("the greatest", x.book(0, 99), 2);
        for (int a : new int[] {-100, 100, LEAST, MOST}) {
            due.eq("book(0, " + a + ")", x.book(0, a), -2);
        }
        due.eq("refused", x.count(2), 2);
    }

    @Says(in = "Promise 26", words = "FULL: 8.")
    static void p26TheNinthIsRefused(Due due) {
        TwoLetterForms x = new TwoLetterForms();
        for (int k = 1; k <= 8; k++) {
            due.eq("row " + k, x.book(0, 0), k);
        }
        due.eq("row 9", x.book(0, 5), -4);
        due.eq("refused", x.count(2), 8);
        due.eq("the ninth isn't looked at", x.looked(), -5);
    }

    // ---- promise 27: looked

    @Says(in = "Promise 27", words = "LOOKED at; -5.")
    static void p27FromTheFirstToTheLastRow(Due due) {
        TwoLetterForms x = Due.form(1, 2, 3);
        due.eq("an empty BOOK", x.looked(), -5);
        for (int k = 0; k < 8; k++) {
            x.book(k % 3, k % 3 + 1);
        }
        due.eq("a full BOOK, none otherwise", x.looked(), -5);
        x.number(0, 9);
        due.eq("the first", x.looked(), 0);
        x.number(0, 1);
        x.number(1, -2);
        due.eq("the second", x.looked(), 1);
        x.book(-1, 0);
        due.eq("an empty one again", x.looked(), -5);
    }
}
