/** Promises 1 to 9: a new object, and what changes the form. */
public final class FormTest {
    private static final Due due = new Due("FormTest");

    public static void main(String[] args) {
        newObject();
        degree();
        number();
        equal();
        window();
        move();
        turn();
        feed();
        read();
        faults();
        refusedClauses();
        due.end();
    }

    private static void newObject() {
        TwoLetterForms x = new TwoLetterForms();
        due.numbers("new", x, 0, 0, 0, 0);
        due.eq("M", x.told(1), 10001);
        due.eq("b", x.told(2), 10);
        for (int what = 0; what < 4; what++) {
            due.eq("count " + what, x.count(what), 0);
        }
        due.eq("no image", x.undo(), -3);
        for (int tape = 0; tape < 6; tape++) {
            due.eq("tape holds nothing", x.item(tape, 0, 1), -11);
        }
        due.eq("NO", TwoLetterForms.NO, Long.MIN_VALUE);
    }

    private static void degree() {
        TwoLetterForms x = Due.form(1, 2, 3);
        due.eq("degree(4)", x.degree(4), 2);
        due.numbers("degree(4)", x, 0, 0, 0, 0, 0);
        x.number(4, 7);
        for (int d : new int[] {1, 0, -1, 5, Integer.MAX_VALUE, Integer.MIN_VALUE}) {
            due.eq("degree(" + d + ")", x.degree(d), -2);
        }
        due.numbers("refused", x, 0, 0, 0, 0, 7);
        due.eq("degree(4) again", x.degree(4), 4);
        due.numbers("again", x, 0, 0, 0, 0, 0);
        x.number(0, 1);
        x.equal(5);
        x.window(3);
        due.eq("degree(2)", x.degree(2), 4);
        due.numbers("degree(2)", x, 0, 0, 0);
        due.eq("M stays", x.told(1), 10005);
        due.eq("b stays", x.told(2), 3);
        due.eq("degree(3)", x.degree(3), 2);
        due.eq("value", x.value(2, 3), 0);
    }

    private static void number() {
        TwoLetterForms x = Due.form(0, 0, 0);
        due.eq("number(0, 99)", x.number(0, 99), 100);
        due.eq("number(0, -99)", x.number(0, -99), 199);
        due.eq("number(0, 100)", x.number(0, 100), -2);
        due.eq("number(0, -100)", x.number(0, -100), -2);
        due.eq("number(0, 5)", x.number(0, 5), 1);
        due.eq("number(2, 5)", x.number(2, 5), 100);
        due.eq("number(3, 5)", x.number(3, 5), -1);
        due.eq("number(3, 500)", x.number(3, 500), -1);
        due.eq("number(-1, 5)", x.number(-1, 5), -1);
        due.eq("number(least, 5)", x.number(Integer.MIN_VALUE, 5), -1);
        due.eq("number(most, 5)", x.number(Integer.MAX_VALUE, 5), -1);
        due.eq("number(1, least)", x.number(1, Integer.MIN_VALUE), -2);
        due.numbers("number", x, 5, 0, 5);
        x.degree(4);
        due.eq("number(4, 1)", x.number(4, 1), 100);
        due.eq("number(5, 1)", x.number(5, 1), -1);
    }

    private static void equal() {
        TwoLetterForms x = new TwoLetterForms();
        due.eq("equal(9999)", x.equal(9999), 10001);
        due.eq("equal(-9999)", x.equal(-9999), 19999);
        due.eq("equal(10000)", x.equal(10000), -2);
        due.eq("equal(-10000)", x.equal(-10000), -2);
        due.eq("equal(least)", x.equal(Integer.MIN_VALUE), -2);
        due.eq("equal(0)", x.equal(0), 1);
        due.eq("M", x.told(1), 10000);
    }

    private static void window() {
        TwoLetterForms x = new TwoLetterForms();
        due.eq("window(40)", x.window(40), 10);
        due.eq("window(41)", x.window(41), -2);
        due.eq("window(0)", x.window(0), -2);
        due.eq("window(-1)", x.window(-1), -2);
        due.eq("window(most)", x.window(Integer.MAX_VALUE), -2);
        due.eq("window(1)", x.window(1), 40);
        due.eq("b", x.told(2), 1);
    }

    private static void move() {
        // x^2 + 2xy + 3y^2 at x + y, y: x^2 + 4xy + 6y^2.
        TwoLetterForms x = Due.form(1, 2, 3);
        due.eq("move(0)", x.move(0), 1);
        due.numbers("move 0", x, 1, 4, 6);
        due.eq("move(1)", x.move(1), 1);
        due.numbers("move 1", x, 1, 2, 3);
        due.eq("move(2)", x.move(2), 1);
        due.numbers("move 2", x, 3, 2, 1);
        due.eq("move(3)", x.move(3), 1);
        due.numbers("move 3", x, 3, -2, 1);
        due.eq("move(4)", x.move(4), 1);
        due.numbers("move 4", x, -3, 2, -1);
        for (int move : new int[] {-1, 5, 6, Integer.MIN_VALUE, Integer.MAX_VALUE}) {
            due.eq("move(" + move + ")", x.move(move), -1);
        }
        due.numbers("refused", x, -3, 2, -1);
        // x^3 at x - y: x^3 - 3x^2y + 3xy^2 - y^3, and the third power's row of degree 4.
        TwoLetterForms cube = Due.form(1, 0, 0, 0);
        cube.move(1);
        due.numbers("cube", cube, 1, -3, 3, -1);
        TwoLetterForms fourth = Due.form(-2, 0, 0, 0, 1);
        fourth.move(0);
        due.numbers("fourth", fourth, -2, -8, -12, -8, -1);
        // A NUMBER would be 100: 49 and 2 times 25 and 1.
        TwoLetterForms beyond = Due.form(25, 49, 26);
        due.eq("beyond", beyond.move(0), -3);
        due.numbers("beyond", beyond, 25, 49, 26);
        due.eq("edge", Due.form(25, 49, 25).move(0), 1);
        due.eq("beyond below", Due.form(-25, -49, -26).move(0), -3);
        due.eq("edge below", Due.form(-25, -49, -25).move(0), 1);
        TwoLetterForms most = Due.form(99, -99, 99);
        due.eq("signs never are beyond", most.move(4), 1);
        due.numbers("signs", most, -99, 99, -99);
    }

    private static void turn() {
        TwoLetterForms x = Due.form(1, 0, 0, -2);
        due.eq("turn(2, 1, 1, 1)", x.turn(2, 1, 1, 1), 1);
        // (2x + y)^3 - 2(x + y)^3
        due.numbers("turn", x, 6, 6, 0, -1);
        due.eq("u", x.turn(10, 0, 0, 0), -2);
        due.eq("v", x.turn(0, -10, 0, 0), -2);
        due.eq("w", x.turn(0, 0, 10, 0), -2);
        due.eq("z", x.turn(0, 0, 0, -10), -2);
        due.eq("turn(9, 9, 9, 9)", x.turn(9, 9, 9, 9), -3);
        due.numbers("refused", x, 6, 6, 0, -1);
        due.eq("turn(1, 1, 0, 0)", x.turn(1, 1, 0, 0), 1);
        due.numbers("no way back", x, 6, 18, 18, 6);
        due.eq("turn(0, 0, 0, 0)", x.turn(0, 0, 0, 0), 1);
        due.numbers("nothing", x, 0, 0, 0, 0);
        due.eq("turn(-9, 9, 9, -9)", x.turn(-9, 9, 9, -9), 1);
        TwoLetterForms y = Due.form(1, 0, 1);
        due.eq("turn(9, 0, 0, -9)", y.turn(9, 0, 0, -9), 1);
        due.numbers("81", y, 81, 0, 81);
        // x and y keep their places: 4x^2 and 9y^2, 12xy from (2x + 3y)^2.
        TwoLetterForms z = Due.form(1, 0, 0);
        z.turn(2, 3, 5, 7);
        due.numbers("square", z, 4, 12, 9);
        TwoLetterForms w = Due.form(0, 1, 0);
        w.turn(2, 3, 5, 7);
        due.numbers("product", w, 10, 29, 21);
    }

    private static void feed() {
        TwoLetterForms x = new TwoLetterForms();
        due.eq("feed(-1)", x.feed(-1), -2);
        due.eq("feed(128)", x.feed(128), -2);
        for (int i = 1; i <= 100; i++) {
            due.eq("feed " + i, x.feed(i % 2 == 0 ? 0 : 127), i);
        }
        due.eq("count", x.count(3), 100);
        due.eq("full", x.feed(0), -4);
        due.eq("bad ahead of full", x.feed(128), -2);
        due.eq("count", x.count(3), 100);
        due.eq("read", x.read(), -10);
        due.eq("empty", x.count(3), 0);
        due.eq("feed", x.feed('d'), 1);
    }

    private static void read() {
        TwoLetterForms x = new TwoLetterForms();
        due.eq("all kinds", Due.read(x, "d2;a0-3;a1007;a20099;=-0012;w40"), 6);
        due.numbers("all kinds", x, -3, 7, 99);
        due.eq("M", x.told(1), 9988);
        due.eq("b", x.told(2), 40);
        due.eq("moves", Due.read(x, "t2;t4"), 2);
        due.numbers("moves", x, -99, -7, 3);
        due.eq("one behind the other", Due.read(x, "a0-1;d2;a01;t0;a2-9"), 5);
        due.numbers("one behind the other", x, 1, 2, -9);
        due.eq("-0", Due.read(x, "=-0"), 1);
        due.eq("M", x.told(1), 10000);
        due.eq("twelve", Due.read(x, "t2;t2;t2;t2;t2;t2;t2;t2;t2;t2;t2;t2"), 12);
        due.eq("most", Due.read(x, "=-9999;=-9999;=-9999;=-9999;=-9999;=-9999;=-9999;a0-0001"), 8);
        due.eq("a digit, then a number", Due.read(x, "a00007"), 1);
        due.eq("of(0)", x.of(0), 107);
    }

    private static void faults() {
        String[] texts = {"", "x", "D2", "d", "d;", "d22", "d2 ", "d2;", "d2;;", ";d2", "a", "a0", "a0-", "a0;", "a0--1",
            "a012345", "a0-12345", "a01-", "=", "=-", "=;", "=12345", "=-00001", "= 1", "w", "w-", "w12a", "t", "t-1", "t12",
            "d2;a01;q", "d2,a01", "d2;a01;=5;w", "t2;t2;t2;t2;t2;t2;t2;t2;t2;t2;t2;t2;", "t2;t2;t2;t2;t2;t2;t2;t2;t2;t2;t2;t2;t2",
            "t2;t2;t2;t2;t2;t2;t2;t2;t2;t2;t2;t2x", "d/", "d:", "=+1", "d2\0", "d2\1", "\0", "d2\177", "a0\0", "=1\0"};
        int[] faults = {0, 0, 0, 1, 1, 2, 2, 3, 3, 0, 1, 2, 3, 2, 3,
            6, 7, 3, 1, 2, 1, 5, 6, 1, 1, 2, 3, 1, 1, 2,
            7, 2, 11, 35, 35,
            35, 1, 1, 1, 2, 2, 0, 2, 2, 2};
        TwoLetterForms x = Due.form(1, 2, 3);
        for (int i = 0; i < texts.length; i++) {
            due.eq("read of " + texts[i], Due.read(x, texts[i]), -10 - faults[i]);
            due.eq("empty behind " + texts[i], x.count(3), 0);
        }
        due.numbers("faults change nothing", x, 1, 2, 3);
        due.eq("M", x.told(1), 10001);
        due.eq("b", x.told(2), 10);
    }

    private static void refusedClauses() {
        TwoLetterForms x = Due.form(50, 0, 3);
        due.eq("refused", Due.read(x, "d5;d1;d0;a30;a00100;a0-100;w0;w41;w-1;t5;t9;t0"), 0);
        due.numbers("refused", x, 50, 0, 3);
        due.eq("b", x.told(2), 10);
        due.eq("some", Due.read(x, "w41;w40;a31;d3;a31;t7;=9999"), 4);
        due.numbers("some", x, 0, 0, 0, 1);
        due.eq("b", x.told(2), 40);
        due.eq("M", x.told(1), 19999);
        due.eq("the least answers count", Due.read(x, "a0-99;a05;=-9999;=3"), 4);
    }
}
