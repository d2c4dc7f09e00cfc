/** Promises 1 to 9: a test for each sentence, and for each case at its edge. */
public final class Promises1To9EdgesTest {
    private static final int LEAST = Edges.LEAST, MOST = Edges.MOST;

    public static void main(String[] args) {
        Edges.run(Promises1To9EdgesTest.class);
    }

    // ---- promise 1: a new object

    @Says(in = "Promise 1", words = "DEGREE 3, NUMBERS 0, M 1, b 10.")
    static void p01ANewObject(Due due) {
        TwoLetterForms x = new TwoLetterForms();
        due.numbers("new", x, 0, 0, 0, 0);
        due.eq("no fourth NUMBER", x.of(4), -1);
        due.eq("M", x.told(1), 10001);
        due.eq("b", x.told(2), 10);
        for (int what = 0; what <= 3; what++) {
            due.eq("count(" + what + ")", x.count(what), 0);
        }
        due.eq("no IMAGE", x.undo(), -3);
        due.eq("no set-up", x.read(), -10);
    }

    @Says(in = "Promise 1", words = "DEGREE 3, NUMBERS 0, M 1, b 10.")
    static void p01ObjectsKeepTheirOwn(Due due) {
        TwoLetterForms x = Due.equation(7, 3, 1, 2, 3);
        x.see(1, 1, 1);
        x.event(0, 0);
        x.book(0, 0);
        x.feed('d');
        x.tape(0, 1, 5);
        x.image();
        x.told(5);
        p01ANewObject(due);
        due.numbers("the first one", x, 1, 2, 3);
    }

    // ---- promise 2: degree

    @Says(in = "Promise 2", words = "DEGREE becomes d; all NUMBERS are 0: what it was.")
    static void p02TheLeastAndTheGreatestAreTaken(Due due) {
        TwoLetterForms x = Due.form(1, 2, 3, 4, 5);
        due.eq("degree(2)", x.degree(2), 4);
        due.numbers("degree(2)", x, 0, 0, 0);
        due.eq("a3 isn't there", x.of(3), -1);
        due.eq("degree(4)", x.degree(4), 2);
        due.numbers("degree(4)", x, 0, 0, 0, 0, 0);
        due.eq("a5 isn't there", x.of(5), -1);
        due.eq("degree(3)", x.degree(3), 4);
        due.eq("degree(3)", x.degree(3), 3);
    }

    @Says(in = "Promise 2", words = "DEGREE becomes d; all NUMBERS are 0: what it was.")
    static void p02TheSameDegreeMakesAllNumbers0Too(Due due) {
        for (int d = 2; d <= 4; d++) {
            TwoLetterForms x = new TwoLetterForms();
            x.degree(d);
            for (int i = 0; i <= d; i++) {
                x.number(i, 99);
            }
            due.eq("degree(" + d + ")", x.degree(d), d);
            due.numbers("degree(" + d + ")", x, new int[d + 1]);
        }
    }

    @Says(in = "Promise 2", words = "DEGREE becomes d; all NUMBERS are 0: what it was.")
    static void p02NothingElseChanges(Due due) {
        TwoLetterForms x = Due.equation(-5, 3, 1, 2, 3);
        x.see(1, 1, 1);
        x.event(0, 2);
        x.book(2, 3);
        x.feed('d');
        x.tape(0, 1, 2);
        x.degree(3);
        due.eq("M", x.told(1), 9995);
        due.eq("b", x.told(2), 3);
        for (int what = 0; what <= 3; what++) {
            due.eq("count(" + what + ")", x.count(what), 1);
        }
        due.eq("TAPE", x.peek(0, 1), 0);
    }

    @Says(in = "Promise 2", words = "BAD.")
    static void p02BelowTheLeastAndAboveTheGreatest(Due due) {
        TwoLetterForms x = Due.form(1, 2, 3);
        for (int d : new int[] {1, 5, 0, -1, -2, 6, LEAST, MOST}) {
            due.eq("degree(" + d + ")", x.degree(d), -2);
        }
        due.numbers("refused", x, 1, 2, 3);
    }

    // ---- promise 3: number

    @Says(in = "Promise 3", words = "NUMBER i becomes a: what it was, and 100.")
    static void p03TheLeastAndTheGreatestOfEachNumber(Due due) {
        for (int d = 2; d <= 4; d++) {
            TwoLetterForms x = new TwoLetterForms();
            x.degree(d);
            for (int i = 0; i <= d; i++) {
                due.eq("0 first", x.number(i, -99), 100);
                due.eq("the least answer", x.number(i, 99), 1);
                due.eq("the greatest answer", x.number(i, i), 199);
            }
            for (int i = 0; i <= d; i++) {
                due.eq("NUMBER " + i + " alone", x.of(i), 100 + i);
            }
        }
    }

    @Says(in = "Promise 3", words = "NONE: i;")
    static void p03BelowTheFirstAndBehindTheLastNumber(Due due) {
        for (int d = 2; d <= 4; d++) {
            TwoLetterForms x = new TwoLetterForms();
            x.degree(d);
            for (int i : new int[] {-1, d + 1, LEAST, MOST}) {
                due.eq("number(" + i + ", 1) of degree " + d, x.number(i, 1), -1);
            }
            due.numbers("refused", x, new int[d + 1]);
        }
    }

    @Says(in = "Promise 3", words = "BAD.")
    static void p03BelowTheLeastAndAboveTheGreatest(Due due) {
        TwoLetterForms x = Due.form(1, 2, 3);
        for (int a : new int[] {-100, 100, -101, 101, LEAST, MOST}) {
            for (int i = 0; i <= 2; i++) {
                due.eq("number(" + i + ", " + a + ")", x.number(i, a), -2);
            }
        }
        due.numbers("refused", x, 1, 2, 3);
    }

    // ---- promise 4: equal

    @Says(in = "Promise 4", words = "M becomes m: what it was, and 10000.")
    static void p04TheLeastAndTheGreatestAreTaken(Due due) {
        TwoLetterForms x = new TwoLetterForms();
        due.eq("1 first", x.equal(-9999), 10001);
        due.eq("the least answer", x.equal(9999), 1);
        due.eq("the greatest answer", x.equal(0), 19999);
        due.eq("0", x.equal(0), 10000);
        due.eq("M", x.told(1), 10000);
    }

    @Says(in = "Promise 4", words = "BAD.")
    static void p04BelowTheLeastAndAboveTheGreatest(Due due) {
        TwoLetterForms x = new TwoLetterForms();
        for (int m : new int[] {-10000, 10000, -10001, 10001, LEAST, MOST}) {
            due.eq("equal(" + m + ")", x.equal(m), -2);
        }
        due.eq("refused", x.told(1), 10001);
    }

    // ---- promise 5: window

    @Says(in = "Promise 5", words = "b becomes this: what it was.")
    static void p05TheLeastAndTheGreatestAreTaken(Due due) {
        TwoLetterForms x = new TwoLetterForms();
        due.eq("10 first", x.window(1), 10);
        due.eq("the least answer", x.window(40), 1);
        due.eq("the greatest answer", x.window(39), 40);
        due.eq("b", x.told(2), 39);
    }

    @Says(in = "Promise 5", words = "BAD.")
    static void p05BelowTheLeastAndAboveTheGreatest(Due due) {
        TwoLetterForms x = new TwoLetterForms();
        for (int b : new int[] {0, 41, -1, -10, 42, LEAST, MOST}) {
            due.eq("window(" + b + ")", x.window(b), -2);
        }
        due.eq("refused", x.told(2), 10);
    }

    // ---- promise 6: move

    @Says(in = "Promise 6", words = "A MOVE: 1.")
    static void p06TheFirstAndTheLastMove(Due due) {
        TwoLetterForms x = Due.form(1, 2, 3);
        due.eq("move(0)", x.move(0), 1);
        due.numbers("MOVE 0", x, 1, 4, 6);
        due.eq("move(4)", x.move(4), 1);
        due.numbers("MOVE 4", x, -1, -4, -6);
    }

    @Says(in = "Promise 6", words = "NONE: move;")
    static void p06BelowTheFirstAndBehindTheLastMove(Due due) {
        TwoLetterForms x = Due.form(1, 2, 3);
        for (int move : new int[] {-1, 5, -2, 6, LEAST, MOST}) {
            due.eq("move(" + move + ")", x.move(move), -1);
        }
        due.numbers("refused", x, 1, 2, 3);
    }

    @Says(in = "Promise 6", words = "STATE: a NUMBER would be beyond.")
    static void p06A99IsTakenAndA100IsRefused(Due due) {
        TwoLetterForms edge = Due.form(25, 49, 25);
        due.eq("a1 and a2 would be 99", edge.move(0), 1);
        due.numbers("99", edge, 25, 99, 99);
        TwoLetterForms middle = Due.form(25, 50, 24);
        due.eq("a1 would be 100", middle.move(0), -3);
        due.numbers("refused", middle, 25, 50, 24);
        TwoLetterForms last = Due.form(25, 49, 26);
        due.eq("a2 would be 100", last.move(0), -3);
        due.numbers("refused", last, 25, 49, 26);
    }

    @Says(in = "Promise 6", words = "STATE: a NUMBER would be beyond.")
    static void p06AMinus99IsTakenAndAMinus100IsRefused(Due due) {
        TwoLetterForms edge = Due.form(-25, -49, -25);
        due.eq("a1 and a2 would be -99", edge.move(0), 1);
        due.numbers("-99", edge, -25, -99, -99);
        TwoLetterForms middle = Due.form(-25, -50, -24);
        due.eq("a1 would be -100", middle.move(0), -3);
        due.numbers("refused", middle, -25, -50, -24);
        TwoLetterForms last = Due.form(-25, -49, -26);
        due.eq("a2 would be -100", last.move(0), -3);
        due.numbers("refused", last, -25, -49, -26);
        // By MOVE 1: 99 at -y is -99.
        TwoLetterForms other = Due.form(25, -49, 25);
        due.eq("move(1)", other.move(1), 1);
        due.numbers("-99 by MOVE 1", other, 25, -99, 99);
        due.eq("a1 would be -100 by MOVE 1", Due.form(25, -50, 24).move(1), -3);
    }

    @Says(in = "Promise 6", words = "STATE: a NUMBER would be beyond.")
    static void p06MovesThatChangePlacesAndSignsAreNeverRefused(Due due) {
        TwoLetterForms x = Due.form(99, -99, 99, 99, -98);
        due.eq("move(2)", x.move(2), 1);
        due.numbers("MOVE 2", x, -98, 99, 99, -99, 99);
        due.eq("move(3)", x.move(3), 1);
        due.numbers("MOVE 3", x, -98, -99, 99, 99, 99);
        due.eq("move(4)", x.move(4), 1);
        due.numbers("MOVE 4", x, 98, 99, -99, -99, -99);
        due.eq("move(0)", x.move(0), -3);
        due.eq("move(1)", x.move(1), -3);
        due.numbers("refused", x, 98, 99, -99, -99, -99);
    }

    // ---- promise 7: turn

    @Says(in = "Promise 7", words = "THE FORM becomes what it is TURNED by u, v, w, z (-9 .. 9 each): 1.")
    static void p07TheLeastAndTheGreatestAreTaken(Due due) {
        int[][] turns = {{9, 0, 0, 0}, {-9, 0, 0, 0}, {0, 9, 0, 0}, {0, -9, 0, 0}, {0, 0, 9, 0}, {0, 0, -9, 0}, {0, 0, 0, 9}, {0, 0, 0, -9}};
        // x^2 + xy + y^2: what is in its place comes as 81, all else is 0.
        int[][] numbers = {{81, 0, 0}, {81, 0, 0}, {0, 0, 81}, {0, 0, 81}, {81, 0, 0}, {81, 0, 0}, {0, 0, 81}, {0, 0, 81}};
        for (int i = 0; i < turns.length; i++) {
            TwoLetterForms x = Due.form(1, 1, 1);
            due.eq("turn " + i, x.turn(turns[i][0], turns[i][1], turns[i][2], turns[i][3]), 1);
            due.numbers("turn " + i, x, numbers[i]);
        }
        TwoLetterForms zeros = new TwoLetterForms();
        due.eq("all the greatest", zeros.turn(9, 9, 9, 9), 1);
        due.eq("all the least", zeros.turn(-9, -9, -9, -9), 1);
    }

    @Says(in = "Promise 7", words = "BAD;")
    static void p07BelowTheLeastAndAboveTheGreatest(Due due) {
        TwoLetterForms x = Due.form(1, 0, 0);
        for (int n : new int[] {-10, 10, LEAST, MOST}) {
            due.eq("u " + n, x.turn(n, 0, 0, 1), -2);
            due.eq("v " + n, x.turn(1, n, 0, 1), -2);
            due.eq("w " + n, x.turn(1, 0, n, 1), -2);
            due.eq("z " + n, x.turn(1, 0, 0, n), -2);
        }
        due.numbers("refused", x, 1, 0, 0);
    }

    @Says(in = "Promise 7", words = "STATE: a NUMBER would be beyond.")
    static void p07A99IsTakenAndA100IsRefused(Due due) {
        TwoLetterForms x = Due.form(11, 0, 0);
        due.eq("11 by 9", x.turn(3, 0, 0, 1), 1);
        due.numbers("99", x, 99, 0, 0);
        TwoLetterForms y = Due.form(-11, 0, 0);
        due.eq("-11 by 9", y.turn(3, 0, 0, 1), 1);
        due.numbers("-99", y, -99, 0, 0);
        TwoLetterForms z = Due.form(25, 0, 0);
        due.eq("25 by 4", z.turn(2, 0, 0, 1), -3);
        due.numbers("refused", z, 25, 0, 0);
        TwoLetterForms w = Due.form(0, 0, -25);
        due.eq("-25 by 4", w.turn(1, 0, 0, 2), -3);
        due.numbers("refused", w, 0, 0, -25);
        TwoLetterForms middle = Due.form(0, 25, 0);
        due.eq("25 by 4 in the middle alone", middle.turn(2, 0, 0, 2), -3);
        due.numbers("refused", middle, 0, 25, 0);
        TwoLetterForms between = Due.form(5, 0, 5, 0, 5);
        due.eq("a1 20, a2 35, a3 30, a4 15", between.turn(1, 1, 0, 1), 1);
        due.numbers("between", between, 5, 20, 35, 30, 15);
    }

    @Says(in = "Promise 7", words = "STATE: a NUMBER would be beyond.")
    static void p07NumbersFarBeyondDoNotComeBack(Due due) {
        TwoLetterForms x = Due.form(99, 99, 99, 99, 99);
        due.eq("99 18^4 and so on", x.turn(9, 9, 9, 9), -3);
        due.eq("-9", x.turn(-9, 9, 9, -9), -3);
        due.numbers("refused", x, 99, 99, 99, 99, 99);
    }

    // ---- promise 8: feed

    @Says(in = "Promise 8", words = "A sign (0 .. 127) comes behind THE TEXT's: how many it has.")
    static void p08TheLeastAndTheGreatestSign(Due due) {
        TwoLetterForms x = new TwoLetterForms();
        due.eq("feed(0)", x.feed(0), 1);
        due.eq("feed(127)", x.feed(127), 2);
        due.eq("count", x.count(3), 2);
        TwoLetterForms y = new TwoLetterForms();
        due.eq("behind the others", Due.read(y, "d24"), -12);
        due.eq("behind the others", Due.read(y, "d2;d4"), 2);
        due.eq("behind the others", y.told(0), 4);
    }

    @Says(in = "Promise 8", words = "BAD;")
    static void p08BelowTheLeastAndAboveTheGreatestSign(Due due) {
        TwoLetterForms x = new TwoLetterForms();
        for (int sign : new int[] {-1, 128, 256 + 'd', -128, LEAST, MOST}) {
            due.eq("feed(" + sign + ")", x.feed(sign), -2);
        }
        due.eq("refused", x.count(3), 0);
    }

    @Says(in = "Promise 8", words = "FULL.")
    static void p08The100thIsTakenAndThe101stIsRefused(Due due) {
        TwoLetterForms x = new TwoLetterForms();
        for (int k = 1; k <= 100; k++) {
            due.eq("sign " + k, x.feed('x'), k);
        }
        due.eq("sign 101", x.feed('x'), -4);
        due.eq("refused", x.count(3), 100);
        due.eq("read() empties it", x.read(), -10);
        due.eq("there is room again", x.feed('x'), 1);
    }

    // ---- promise 9: read

    @Says(in = "Promise 9", words = "THE TEXT, which is empty then (by a FAULT, too), is a set-up: how many CLAUSES were done;")
    static void p09TheTextIsEmptyThen(Due due) {
        TwoLetterForms x = new TwoLetterForms();
        due.eq("a set-up", Due.read(x, "d2;a01"), 2);
        due.eq("empty", x.count(3), 0);
        due.eq("a FAULT", Due.read(x, "d3;x"), -13);
        due.eq("empty by a FAULT, too", x.count(3), 0);
        due.eq("nothing is left of it", Due.read(x, "a02"), 1);
        due.numbers("the set-ups", x, 2, 0, 0);
        due.eq("an empty one", x.read(), -10);
        due.eq("empty", x.count(3), 0);
        due.eq("all refused", Due.read(x, "d5"), 0);
        due.eq("empty", x.count(3), 0);
    }

    @Says(in = "Promise 9", words = "THE TEXT, which is empty then (by a FAULT, too), is a set-up: how many CLAUSES were done;")
    static void p09From0To12ClausesAreDone(Due due) {
        TwoLetterForms x = new TwoLetterForms();
        due.eq("the fewest", Due.read(x, "w0"), 0);
        due.eq("one", Due.read(x, "w0;w1"), 1);
        due.eq("the most", Due.read(x, "w1;w2;w3;w4;w5;w6;w7;w8;w9;=1;=2;=3"), 12);
        due.eq("b", x.told(2), 9);
        due.eq("M", x.told(1), 10003);
    }

    @Says(in = "Promise 9", words = "-10 less the FAULT.")
    static void p09FromTheFirstToTheLastFault(Due due) {
        TwoLetterForms x = new TwoLetterForms();
        due.eq("at 0: an empty TEXT", x.read(), -10);
        due.eq("at 0: a byte", Due.read(x, "?"), -10);
        due.eq("at 1", Due.read(x, "d?"), -11);
        due.eq("at the end", Due.read(x, "d"), -11);
        StringBuilder longest = new StringBuilder();
        for (int k = 0; k < 12; k++) {
            longest.append(k == 0 ? "" : ";").append("a0-0001");
        }
        due.eq("at 95, behind the longest set-up", Due.read(x, longest + "5"), -105);
        due.eq("at 95, where the ; behind the twelfth stands", Due.read(x, longest + ";a0-1"), -105);
        due.numbers("none is done", x, 0, 0, 0, 0);
    }
}
