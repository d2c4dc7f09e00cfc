/** "Terms", part 1, up to CONVERGENTS: a test for each sentence, and for each case at its edge. */
public final class Terms1EdgesTest {
    private static final int[] PRIMES = {2, 3, 5, 7, 11, 13};

    public static void main(String[] args) {
        Edges.run(Terms1EdgesTest.class);
    }

    // ---- the form, M, the window

    @Says(in = "Terms 1", words = "THE FORM has a DEGREE d (2 .. 4; 3 at first)")
    static void degreeIs2To4And3AtFirst(Due due) {
        TwoLetterForms x = new TwoLetterForms();
        due.eq("at first", x.told(0), 3);
        due.eq("the least", x.degree(2), 3);
        due.eq("the least stands", x.told(0), 2);
        due.eq("one below", x.degree(1), -2);
        due.eq("the greatest", x.degree(4), 2);
        due.eq("the greatest stands", x.told(0), 4);
        due.eq("one above", x.degree(5), -2);
        due.eq("refused, so that it stays", x.told(0), 4);
    }

    @Says(in = "Terms 1", words = "and NUMBERS a0 .. ad")
    static void numbersAre0ToTheDegree(Due due) {
        TwoLetterForms x = new TwoLetterForms();
        for (int d = 2; d <= 4; d++) {
            x.degree(d);
            due.eq("below a0", x.number(-1, 5), -1);
            due.eq("a0", x.number(0, 5), 100);
            due.eq("a" + d + " of degree " + d, x.number(d, 5), 100);
            due.eq("behind a" + d + " of degree " + d, x.number(d + 1, 5), -1);
            due.eq("below a0", x.of(-1), -1);
            due.eq("a0", x.of(0), 105);
            due.eq("a" + d, x.of(d), 105);
            due.eq("behind a" + d, x.of(d + 1), -1);
        }
    }

    @Says(in = "Terms 1", words = "(-99 .. 99 each; 0 at first)")
    static void numbersAreWithin99And0AtFirst(Due due) {
        TwoLetterForms x = new TwoLetterForms();
        for (int i = 0; i <= 3; i++) {
            due.eq("at first", x.of(i), 100);
            due.eq("the least", x.number(i, -99), 100);
            due.eq("one below", x.number(i, -100), -2);
            due.eq("the least stands", x.of(i), 1);
            due.eq("the greatest", x.number(i, 99), 1);
            due.eq("one above", x.number(i, 100), -2);
            due.eq("the greatest stands", x.of(i), 199);
        }
    }

    @Says(in = "Terms 1", words = "its VALUE at x, y: a0 x^d and a1 x^(d-1) y and .. and ad y^d, together.")
    static void valueAt0AndAt1(Due due) {
        TwoLetterForms x = Due.form(1, 2, 4, 8, 16);
        due.eq("both 0", x.value(0, 0), 0);
        due.eq("y 0: a0 alone, for the power 0 of y is 1", x.value(3, 0), 81);
        due.eq("x 0: a4 alone, for the power 0 of x is 1", x.value(0, 3), 16 * 81);
        due.eq("all NUMBERS, together", x.value(1, 1), 31);
        due.eq("odd powers below 0", x.value(-1, 1), 1 - 2 + 4 - 8 + 16);
        due.eq("each NUMBER at its power", x.value(2, 3), 16 + 2 * 8 * 3 + 4 * 4 * 9 + 8 * 2 * 27 + 16 * 81);
        due.eq("degree 2", Due.form(1, 2, 4).value(2, 3), 4 + 2 * 6 + 4 * 9);
        due.eq("degree 3", Due.form(1, 2, 4, 8).value(2, 3), 8 + 2 * 12 + 4 * 18 + 8 * 27);
    }

    @Says(in = "Terms 1", words = "M: a number (-9999 .. 9999; 1 at first).")
    static void mIsWithin9999And1AtFirst(Due due) {
        TwoLetterForms x = new TwoLetterForms();
        due.eq("at first", x.told(1), 10001);
        due.eq("the least", x.equal(-9999), 10001);
        due.eq("one below", x.equal(-10000), -2);
        due.eq("the least stands", x.told(1), 1);
        due.eq("the greatest", x.equal(9999), 1);
        due.eq("one above", x.equal(10000), -2);
        due.eq("the greatest stands", x.told(1), 19999);
    }

    @Says(in = "Terms 1", words = "THE WINDOW: all twos x, y of whole numbers -b .. b")
    static void windowHasBothEndsAndNothingBehind(Due due) {
        // x y is 9 at the corners 3 3 and -3 -3 alone, -9 at the other two.
        TwoLetterForms x = Due.equation(9, 3, 0, 1, 0);
        due.eq("two corners", x.told(3), 2);
        due.eq("the least x", x.answer(0, 0), 97);
        due.eq("the least y", x.answer(0, 1), 97);
        due.eq("the greatest x", x.answer(1, 0), 103);
        due.eq("the greatest y", x.answer(1, 1), 103);
        x.equal(-9);
        due.eq("the other corners", x.told(3), 2);
        x.window(2);
        due.eq("they stand behind the window", x.told(3), 0);
        due.eq("all twos of the least window", Due.equation(0, 1, 0, 0, 0).told(3), 9);
        due.eq("all twos of the greatest window", Due.equation(0, 40, 0, 0, 0).told(3), 6561);
    }

    @Says(in = "Terms 1", words = "(b 1 .. 40; 10 at first).")
    static void bIs1To40And10AtFirst(Due due) {
        TwoLetterForms x = new TwoLetterForms();
        due.eq("at first", x.told(2), 10);
        due.eq("the least", x.window(1), 10);
        due.eq("one below", x.window(0), -2);
        due.eq("the least stands", x.told(2), 1);
        due.eq("the greatest", x.window(40), 1);
        due.eq("one above", x.window(41), -2);
        due.eq("the greatest stands", x.told(2), 40);
    }

    // ---- answers

    @Says(in = "Terms 1", words = "ANSWERS: twos in THE WINDOW at which VALUE is M;")
    static void answersAreWhereValueIsMItself(Due due) {
        TwoLetterForms x = Due.equation(50, 7, 1, 0, 1);
        due.eq("50: 5 5, 1 7, 7 1 by signs", x.told(3), 12);
        x.equal(49);
        due.eq("49: 0 7, 7 0", x.told(3), 4);
        x.equal(51);
        due.eq("51: none", x.told(3), 0);
        due.eq("none has the number 0", x.answer(0, 0), -5);
        x.equal(0);
        due.eq("0: 0 0", x.told(3), 1);
        x.equal(-50);
        due.eq("-50: none", x.told(3), 0);
    }

    @Says(in = "Terms 1", words = "ANSWERS: twos in THE WINDOW at which VALUE is M;")
    static void answersAtTheEdgesOfM(Due due) {
        // 99 x^2 + 99 y^2 and M 9999: x^2 + y^2 is 101.
        due.eq("the greatest M", Due.equation(9999, 40, 99, 0, 99).told(3), 8);
        due.eq("the least M", Due.equation(-9999, 40, -99, 0, -99).told(3), 8);
        // VALUES beyond an int's numbers must not come back to M: 99 40^4 five times.
        due.eq("far above M", Due.equation(1, 40, 99, 99, 99, 99, 99).told(3), 0);
    }

    @Says(in = "Terms 1", words = "numbered from 0 by x, of like ones by y, the least first.")
    static void answersAreNumberedByXThenByY(Due due) {
        TwoLetterForms x = Due.equation(1, 1, 1, 0, 0);
        int[][] twos = {{-1, -1}, {-1, 0}, {-1, 1}, {1, -1}, {1, 0}, {1, 1}};
        due.eq("many", x.told(3), twos.length);
        for (int i = 0; i < twos.length; i++) {
            due.eq("x of " + i, x.answer(i, 0), 100 + twos[i][0]);
            due.eq("y of " + i, x.answer(i, 1), 100 + twos[i][1]);
        }
        due.eq("behind the last", x.answer(twos.length, 0), -5);
    }

    @Says(in = "Terms 1", words = "numbered from 0 by x, of like ones by y, the least first.")
    static void theLastOfAllAnswersHasTheNumber6560(Due due) {
        TwoLetterForms x = Due.equation(0, 40, 0, 0, 0);
        due.eq("x of the first", x.answer(0, 0), 60);
        due.eq("y of the first", x.answer(0, 1), 60);
        due.eq("x of the last of the first x", x.answer(80, 0), 60);
        due.eq("y of the last of the first x", x.answer(80, 1), 140);
        due.eq("x of the first of the second x", x.answer(81, 0), 61);
        due.eq("y of the first of the second x", x.answer(81, 1), 60);
        due.eq("x of the last", x.answer(6560, 0), 140);
        due.eq("y of the last", x.answer(6560, 1), 140);
        due.eq("behind the last", x.answer(6561, 0), -5);
    }

    // ---- primes

    @Says(in = "Terms 1", words = "PRIMES 0 .. 5: 2, 3, 5, 7, 11, 13.")
    static void primesAre0To5(Due due) {
        TwoLetterForms x = new TwoLetterForms();
        due.eq("below the first", x.prime(-1, 0), -1);
        for (int i = 0; i < PRIMES.length; i++) {
            due.eq("PRIME " + i, x.prime(i, 0), PRIMES[i]);
        }
        due.eq("behind the last", x.prime(6, 0), -1);
    }

    @Says(in = "Terms 1", words = "REMAINDERS by a PRIME p: how many unlike numbers 0 .. p - 1 VALUE is, modulo p, at all x, y of 0 .. p - 1.")
    static void remaindersAre1ToP(Due due) {
        TwoLetterForms zeros = new TwoLetterForms();
        TwoLetterForms product = Due.form(0, 1, 0);
        for (int i = 0; i < PRIMES.length; i++) {
            due.eq("the fewest: 0 alone, by " + PRIMES[i], zeros.prime(i, 1), 1);
            due.eq("the most: all, by " + PRIMES[i], product.prime(i, 1), PRIMES[i]);
        }
    }

    @Says(in = "Terms 1", words = "REMAINDERS by a PRIME p: how many unlike numbers 0 .. p - 1 VALUE is, modulo p, at all x, y of 0 .. p - 1.")
    static void remaindersTakeThe0AndTheLastPlaceToo(Due due) {
        // By 2, x y is 1 at 1 1 alone; by 3, x^2 + y^2 is 0 at 0 0 alone.
        due.eq("1 1", Due.form(0, 1, 0).prime(0, 1), 2);
        due.eq("0 0", Due.form(1, 0, 1).prime(1, 1), 3);
        // By 2, x^2 + x y is 1 at 1 0 alone, y^2 + x y at 0 1 alone.
        due.eq("1 0", Due.form(1, 1, 0).prime(0, 1), 2);
        due.eq("0 1", Due.form(0, 1, 1).prime(0, 1), 2);
    }

    @Says(in = "Terms 1", words = "REMAINDERS by a PRIME p: how many unlike numbers 0 .. p - 1 VALUE is, modulo p, at all x, y of 0 .. p - 1.")
    static void remaindersOfValuesBelow0AreNoOthers(Due due) {
        // Squares have (p + 1) / 2, whether above 0 or below; by 2 both.
        int[] squares = {2, 2, 3, 4, 6, 7};
        TwoLetterForms above = Due.form(1, 0, 0);
        TwoLetterForms below = Due.form(-1, 0, 0);
        for (int i = 0; i < PRIMES.length; i++) {
            due.eq("above 0 by " + PRIMES[i], above.prime(i, 1), squares[i]);
            due.eq("below 0 by " + PRIMES[i], below.prime(i, 1), squares[i]);
        }
        // 5 x^2 - 2 y^2 is, by 7, -2 (x^2 + y^2), above 0 and below: all of 0 .. 6.
        due.eq("above and below", Due.form(5, 0, -2).prime(3, 1), 7);
        due.eq("multiples of p alone", Due.form(-77, 0, 77).prime(3, 1), 1);
    }

    @Says(in = "Terms 1", words = "It BARS M, if M modulo p is none of these")
    static void barsWhatIsNoneOfTheRemainders(Due due) {
        TwoLetterForms zeros = new TwoLetterForms();
        zeros.equal(2310);
        for (int i = 0; i < 5; i++) {
            due.eq(PRIMES[i] + " divides 2310", zeros.prime(i, 2), 0);
        }
        due.eq("13 doesn't", zeros.prime(5, 2), 1);
        zeros.equal(-2310);
        due.eq("2 divides -2310", zeros.prime(0, 2), 0);
        due.eq("13 doesn't", zeros.prime(5, 2), 1);
        zeros.equal(0);
        for (int i = 0; i < PRIMES.length; i++) {
            due.eq("0 is never barred, by " + PRIMES[i], zeros.prime(i, 2), 0);
        }
    }

    @Says(in = "Terms 1", words = "(all modulo p is told as 0 .. p - 1).")
    static void moduloPWrapsAroundToWhatIsNotBelow0(Due due) {
        // By 3, -x^2 is 0 or 2.
        TwoLetterForms x = Due.form(-1, 0, 0);
        for (int m : new int[] {2, -1, 9998, -9997, 0, 3, -3, 9999, -9999}) {
            x.equal(m);
            due.eq("M " + m + " by 3 is 0 or 2", x.prime(1, 2), 0);
        }
        for (int m : new int[] {1, 4, -2, -5, 9997, -9998}) {
            x.equal(m);
            due.eq("M " + m + " by 3 is 1", x.prime(1, 2), 1);
        }
    }

    // ---- turns, moves

    @Says(in = "Terms 1", words = "A TURN: whole numbers u, v, w, z; THE FORM TURNED by it is the one whose VALUE at x, y is THE FORM's at u x + v y, w x + z y.")
    static void turnedIsTheFormAtTheTurnedTwos(Due due) {
        TwoLetterForms x = Due.form(1, 1, 1);
        TwoLetterForms turned = Due.form(1, 1, 1);
        due.eq("turn", turned.turn(1, 2, 3, 4), 1);
        due.numbers("turned", turned, 13, 38, 28);
        for (int a = -3; a <= 3; a++) {
            due.eq("at " + a + " 2", turned.value(a, 2), x.value(a + 4, 3 * a + 8));
        }
        // The edges -9 and 9: 81 x^2 - 90 xy + 25 y^2, and w and z where they alone matter.
        TwoLetterForms y = Due.form(1, 0, 0);
        due.eq("u 9, v -5", y.turn(9, -5, -9, 9), 1);
        due.numbers("u 9, v -5", y, 81, -90, 25);
        TwoLetterForms z = Due.form(0, 0, 1);
        due.eq("w -5, z 9", z.turn(9, -9, -5, 9), 1);
        due.numbers("w -5, z 9", z, 25, -90, 81);
    }

    @Says(in = "Terms 1", words = "MOVES: 0 TURN 1 1 0 1; 1 TURN 1 -1 0 1; 2 TURN 0 1 1 0; 3 TURN -1 0 0 1; 4: each NUMBER times -1.")
    static void movesAre0To4(Due due) {
        int[][] squares = {{1, 4, 6}, {1, 0, 2}, {3, 2, 1}, {1, -2, 3}, {-1, -2, -3}};
        int[][] cubes = {{1, 5, 10, 10}, {1, -1, 2, 2}, {4, 3, 2, 1}, {-1, 2, -3, 4}, {-1, -2, -3, -4}};
        int[][] fourths = {{1, 6, 15, 20, 15}, {1, -2, 3, 0, 3}, {5, 4, 3, 2, 1}, {1, -2, 3, -4, 5}, {-1, -2, -3, -4, -5}};
        for (int move = 0; move <= 4; move++) {
            moved(due, move, Due.form(1, 2, 3), squares[move]);
            moved(due, move, Due.form(1, 2, 3, 4), cubes[move]);
            moved(due, move, Due.form(1, 2, 3, 4, 5), fourths[move]);
        }
        TwoLetterForms x = Due.form(1, 2, 3);
        due.eq("below the first", x.move(-1), -1);
        due.eq("behind the last", x.move(5), -1);
    }

    private static void moved(Due due, int move, TwoLetterForms x, int[] numbers) {
        due.eq("move(" + move + ")", x.move(move), 1);
        due.numbers("MOVE " + move, x, numbers);
    }

    // ---- units

    @Says(in = "Terms 1", words = "UNITS: TURNS of numbers -2 .. 2")
    static void unitsReachTo2AndNoFarther(Due due) {
        // x^2 alone lets w be what it likes, y^2 alone v: of them -2 .. 2 are UNITS.
        TwoLetterForms x = Due.form(1, 0, 0);
        due.eq("x^2", x.told(4), 20);
        unit(due, x, 0, -1, 0, -2, -1);
        unit(due, x, 19, 1, 0, 2, 1);
        TwoLetterForms y = Due.form(0, 0, 1);
        due.eq("y^2", y.told(4), 20);
        unit(due, y, 0, -1, -2, 0, -1);
        unit(due, y, 19, 1, 2, 0, 1);
        TwoLetterForms zeros = new TwoLetterForms();
        due.eq("the most", zeros.told(4), 104);
        unit(due, zeros, 0, -2, -1, -1, -1);
        unit(due, zeros, 103, 2, 1, 1, 1);
        // 2x + 3y, x + 2y leaves x^2 - 3y^2, but 3 is beyond; signs stay.
        due.eq("3 is beyond", Due.form(1, 0, -3).told(4), 4);
    }

    private static void unit(Due due, TwoLetterForms x, int i, int... numbers) {
        for (int what = 0; what < 4; what++) {
            due.eq("unit(" + i + ", " + what + ")", x.unit(i, what), numbers[what] + 10);
        }
    }

    @Says(in = "Terms 1", words = "with u z less v w 1 or -1,")
    static void unitsTurnBy1OrMinus1Alone(Due due) {
        // z of 0, 2 and -2 leaves x^2, too, but is no UNIT.
        TwoLetterForms x = Due.form(1, 0, 0);
        int[] turning = new int[2];
        for (int i = 0; i < 20; i++) {
            int one = (x.unit(i, 0) - 10) * (x.unit(i, 3) - 10) - (x.unit(i, 1) - 10) * (x.unit(i, 2) - 10);
            due.yes("UNIT " + i + ": 1 or -1", one == 1 || one == -1);
            turning[one == 1 ? 0 : 1]++;
        }
        due.eq("of 1", turning[0], 10);
        due.eq("of -1", turning[1], 10);
        due.eq("behind the last", x.unit(20, 0), -5);
    }

    @Says(in = "Terms 1", words = "by which THE FORM TURNED is THE FORM;")
    static void unitsLeaveEachNumber(Due due) {
        TwoLetterForms x = Due.form(1, 0, 0, -2);
        due.eq("the fewest: 1 0 0 1 alone", x.told(4), 1);
        unit(due, x, 0, 1, 0, 0, 1);
        due.eq("-1 0 0 -1 makes a cube another", Due.form(1, 0, 0, 5).told(4), 1);
        due.eq("-1 0 0 -1 leaves squares", Due.form(1, 1, 5).told(4), 4);
        // x^2 - y^2 turned to its opposite isn't itself: 0 1 1 0 is no UNIT of it, but of x^2 + y^2.
        due.eq("x^2 - y^2", Due.form(1, 0, -1).told(4), 4);
        due.eq("x^2 + y^2", Due.form(1, 0, 1).told(4), 8);
        // What differs in the last NUMBER alone: x + y, y makes x^4 to x^4 + .. + y^4.
        due.eq("x^4 + 2y^4", Due.form(1, 0, 0, 0, 2).told(4), 4);
    }

    @Says(in = "Terms 1", words = "numbered from 0 by u, then v, then w, then z, the least first.")
    static void unitsAreNumberedByUVWZ(Due due) {
        TwoLetterForms x = Due.form(1, 0, 1);
        int[][] units = {{-1, 0, 0, -1}, {-1, 0, 0, 1}, {0, -1, -1, 0}, {0, -1, 1, 0}, {0, 1, -1, 0}, {0, 1, 1, 0}, {1, 0, 0, -1}, {1, 0, 0, 1}};
        for (int i = 0; i < units.length; i++) {
            unit(due, x, i, units[i]);
        }
        // Of like u, v, w those of z -1 and 1; of like u, v, those of w -2 .. 2.
        TwoLetterForms y = Due.form(1, 0, 0);
        for (int i = 0; i < 10; i++) {
            unit(due, y, i, -1, 0, i / 2 - 2, i % 2 == 0 ? -1 : 1);
        }
    }

    // ---- families

    @Says(in = "Terms 1", words = "A UNIT carries an ANSWER x, y to u x + v y, w x + z y, if that is in THE WINDOW (it is an ANSWER, too).")
    static void whatIsCarriedBehindTheWindowLinksNothing(Due due) {
        // x^2 = 100: y is carried to y and 10 and to -y, so that 0 .. 5 lead a FAMILY each; many stand at the window's edge.
        TwoLetterForms x = Due.equation(100, 10, 1, 0, 0);
        due.eq("x^2 = 100", x.told(5), 6);
        int[] sizes = {6, 8, 8, 8, 8, 4};
        // -10 -10 leads those of 10 and 0, then -9 those of 1, and so on to -5.
        for (int f = 0; f < sizes.length; f++) {
            due.eq("family(" + f + ")", x.family(f), sizes[f]);
        }
        due.eq("x^2 = 1600 in the greatest window", Due.equation(1600, 40, 1, 0, 0).told(5), 21);
        // In the least window 1 0 is carried to 2 1, which is none; -1 0 stays its own.
        TwoLetterForms y = Due.equation(1, 1, 1, -1, -1);
        due.eq("ANSWERS in the least window", y.told(3), 4);
        due.eq("FAMILIES in the least window", y.told(5), 1);
    }

    @Says(in = "Terms 1", words = "A UNIT carries an ANSWER x, y to u x + v y, w x + z y, if that is in THE WINDOW (it is an ANSWER, too).")
    static void eachTwoIsCarriedByTheUnitsOwnRows(Due due) {
        // w carries x to y, v carries y to x: x^2 = 9 and y^2 = 9 have FAMILIES by y and by x alone.
        TwoLetterForms x = Due.equation(9, 3, 1, 0, 0);
        due.eq("x^2 = 9", x.told(5), 2);
        due.eq("3 0, 3 3", x.family(0), 6);
        due.eq("3 1, 3 2", x.family(1), 8);
        TwoLetterForms y = Due.equation(9, 3, 0, 0, 1);
        due.eq("y^2 = 9", y.told(5), 2);
        due.eq("0 3, 3 3", y.family(0), 6);
        due.eq("1 3, 2 3", y.family(1), 8);
    }

    @Says(in = "Terms 1", words = "FAMILIES: ANSWERS are of one, if by UNITS, one behind the other, the one is carried to the other, or both to a third one, or so on (each link counts both ways);")
    static void familiesReachOverManyLinks(Due due) {
        // By the UNITS of the form of zeros twos go wherever their divisor is the same: 0, and 1 .. b.
        TwoLetterForms zeros = Due.equation(0, 40, 0, 0, 0);
        due.eq("by divisors", zeros.told(5), 41);
        // 40 39 and 0 1 are some forty links apart.
        due.eq("40 39 and 0 1", zeros.answer(6559, 2), zeros.answer(81 * 40 + 41, 2));
        due.eq("0 0 alone", zeros.family(zeros.answer(3280, 2)), 1);
        due.eq("the least window", Due.equation(0, 1, 0, 0, 0).told(5), 2);
        // By 0 1 1 0, the first of two UNITS, 0 1 is carried to 1 0.
        due.eq("one link", Due.equation(1, 40, 1, 0, 0, 1).told(5), 1);
        // No link but the one to itself: each ANSWER is of its own FAMILY.
        TwoLetterForms alone = Due.equation(1, 40, 1, 0, 0, -2);
        due.eq("each alone", alone.told(5), 2);
        due.eq("each alone", alone.family(0), 1);
        due.eq("each alone", alone.family(1), 1);
        // All of one: the numbers of the row 1 1, 2 1, 5 3, 13 8, 34 21 by signs and either way.
        TwoLetterForms one = Due.equation(1, 40, 1, -1, -1);
        due.eq("all of one", one.told(5), 1);
        due.eq("all of one", one.family(0), one.told(3));
    }

    @Says(in = "Terms 1", words = "numbered from 0 by their least ANSWERS' numbers.")
    static void familiesAreNumberedByTheirLeastAnswer(Due due) {
        TwoLetterForms x = Due.equation(25, 10, 1, 0, 1);
        int[] families = {0, 1, 1, 1, 1, 0, 0, 1, 1, 1, 1, 0};
        for (int i = 0; i < families.length; i++) {
            due.eq("FAMILY of " + i, x.answer(i, 2), families[i]);
        }
        // -2 -2 has the divisor 2, -2 -1 the divisor 1, and 0 0 comes last.
        TwoLetterForms zeros = Due.equation(0, 2, 0, 0, 0);
        due.eq("-2 -2", zeros.answer(0, 2), 0);
        due.eq("-2 -1", zeros.answer(1, 2), 1);
        due.eq("-2 0", zeros.answer(2, 2), 0);
        due.eq("0 0", zeros.answer(12, 2), 2);
        due.eq("2 2", zeros.answer(24, 2), 0);
        int[] sizes = {8, 16, 1, -5};
        for (int f = 0; f < sizes.length; f++) {
            due.eq("family(" + f + ")", zeros.family(f), sizes[f]);
        }
    }

    // ---- parts, convergents

    @Says(in = "Terms 1", words = "PARTS of a root: f is the row of NUMBERS, f(t) a0 t^d and .. and ad, together.")
    static void partsReadTheNumbersFromTheGreatestPower(Due due) {
        // As degree 2: 3t - 5, whose root is 1 and 1 by (1 and 1 by 2); the other way round 0 is a root.
        due.parts("3t - 5", Due.form(0, 3, -5), 1, 1, 2);
        due.parts("-5t^2 + 3t", Due.form(-5, 3, 0), 0);
        due.parts("a0 t^3", Due.form(2, 0, 0, -54), 3);
        due.parts("a0 t^4", Due.form(1, 0, 0, 0, -81), 3);
    }

    @Says(in = "Terms 1", words = "PART 0: the greatest n of 0 .. 99 by which f(n) is 0,")
    static void part0AtARootIs0To99(Due due) {
        due.parts("the least: t^2 + 5t", Due.form(1, 5, 0), 0);
        due.parts("one below: t + 1", Due.form(0, 1, 1));
        due.parts("the greatest: t - 99", Due.form(0, 1, -99), 99);
        due.parts("all of them: the greatest", new TwoLetterForms(), 99);
        due.parts("the greatest of 2 and 7", Due.form(1, -9, 14), 7);
        due.parts("the greatest of 0 and 1", Due.form(1, -1, 0), 1);
        due.parts("a root without another sign: (t - 4)^2", Due.form(1, -8, 16), 4);
    }

    @Says(in = "Terms 1", words = "or f(n) is above 0 and f(n + 1) below, or below and above.")
    static void part0WhereTheSignChangesIs0To99(Due due) {
        due.eq("from below, the least: 2t^2 - 1", Due.form(2, 0, -1).part(0), 0);
        due.eq("from above, the least: -2t^2 + 1", Due.form(-2, 0, 1).part(0), 0);
        due.eq("between -1 and 0: 2t + 1", Due.form(0, 2, 1).part(0), -5);
        // t^2 - 99t - 99 is -99 at 99 and 1 at 100.
        due.eq("from below, the greatest", Due.form(1, -99, -99).part(0), 99);
        due.eq("from above, the greatest", Due.form(-1, 99, 99).part(0), 99);
        due.eq("from below", Due.form(1, 0, -3).part(0), 1);
        due.eq("from above", Due.form(-1, 0, 3).part(0), 1);
        // (2t - 3)(2t - 9): between 1 and 2 from above, between 4 and 5 from below.
        due.eq("the greatest of two", Due.form(4, -24, 27).part(0), 4);
        // t(2t - 1): 0 at 0, and a sign that changes between 0 and 1 is not seen from 0.
        due.eq("0 is neither above nor below", Due.form(2, -1, 0).part(0), 0);
        due.eq("0 is neither above nor below", Due.form(2, -1, 0).told(6), 1);
    }

    @Says(in = "Terms 1", words = "If there is none, there are no PARTS (any more).")
    static void withoutOneThereAreNoParts(Due due) {
        due.parts("t^2 + 1", Due.form(1, 0, 1));
        due.parts("-t^2 - 1", Due.form(-1, 0, -1));
        due.parts("a number alone", Due.form(0, 0, 5));
        // 10t^2 - 30t + 22 changes its sign twice between 1 and 2.
        due.parts("two at once", Due.form(10, -30, 22));
        // Behind 1, 50t^2 - 51 becomes -t^2 + 100t + 50, which changes its sign between 100 and 101.
        due.parts("any more", Due.form(50, 0, -51), 1);
    }

    @Says(in = "Terms 1", words = "If f(n) is 0, there are none behind it.")
    static void behindARootItselfThereAreNone(Due due) {
        due.parts("at once", Due.form(1, 0, -49), 7);
        due.parts("behind two: 5/3", Due.form(0, 3, -5), 1, 1, 2);
        due.parts("behind one: 1/99", Due.form(0, 99, -1), 0, 99);
        due.parts("the zeros", Due.form(0, 0, 0, 0, 0), 99);
    }

    @Says(in = "Terms 1", words = "Else f becomes the row of t^d f(n + 1/t), its NUMBERS in the order of the powers of t, the greatest first;")
    static void theNextPartsAreThoseOfTheRowBehind(Due due) {
        due.parts("the square root of 3", Due.form(1, 0, -3), 1, 1, 2, 1, 2, 1, 2, 1);
        due.parts("the cube root of 2", Due.form(1, 0, 0, -2), 1, 3, 1, 5, 1, 1, 4, 1);
        due.parts("the fourth root of 2", Due.form(1, 0, 0, 0, -2), 1, 5, 3, 1, 1, 40, 5, 1);
    }

    // The forms of the next two tests were searched for: numbers of a row seldom come so near to 1000000000.

    @Says(in = "Terms 1", words = "if one of these is above 1000000000 without its sign, there are no PARTS any more;")
    static void aRowWithA1000000000StillHasAPart(Due due) {
        // Behind 1 and 1 by (18 .. 5) the row is -97170302 1000000000 540969284 95382271 5575223.
        due.parts("1000000000, then 10", Due.form(61, 43, 35, -71, -90), 1, 18, 3, 1, 2, 1, 5, 10);
        due.parts("-1000000000, then 10", Due.form(-61, -43, -35, 71, 90), 1, 18, 3, 1, 2, 1, 5, 10);
        // Behind 38 the row is -96314228 1000000000 79233611 2085611 18284, behind 10 far more.
        due.parts("1000000000, then 10 and no more", Due.form(74, 33, 83, -16, -52), 0, 1, 2, 18, 38, 10);
        due.parts("-1000000000, then 10 and no more", Due.form(-74, -33, -83, 16, 52), 0, 1, 2, 18, 38, 10);
    }

    @Says(in = "Terms 1", words = "if one of these is above 1000000000 without its sign, there are no PARTS any more;")
    static void aRowWithA1000000001HasNoPart(Due due) {
        // In the second place: -58419249 1000000001 38934547 504790 2181, whose PART would be 17.
        due.parts("1000000001", Due.form(-3, 38, -35, 71, -80), 11, 1, 5, 77);
        due.parts("-1000000001", Due.form(3, -38, 35, -71, 80), 11, 1, 5, 77);
        // In the first place: 1000000001 -987718030 -672263828 -123287297 -7218283, whose PART would be 1.
        due.parts("1000000001 ahead of the others", Due.form(17, -78, 52, -81, 77), 4, 17, 1, 10, 1, 5);
        due.parts("-1000000001 ahead of the others", Due.form(-17, 78, -52, 81, -77), 4, 17, 1, 10, 1, 5);
        // Of eight PARTS the last one would be 1.
        due.parts("1000000001 ahead of the eighth", Due.form(-7, 79, -99, -51, -66), 9, 1, 2, 1, 30, 1, 3);
    }

    @Says(in = "Terms 1", words = "the next PART likewise, n of 1 .. 99.")
    static void theNextPartIs1To99(Due due) {
        due.parts("the least, over and over", Due.form(1, -1, -1), 1, 1, 1, 1, 1, 1, 1, 1);
        due.eq("the greatest: 1/99", Due.form(0, 99, -1).part(1), 99);
        due.eq("the greatest, from below or above: 99.49", Due.form(49, 1, -51).part(1), 99);
        due.eq("one above: 100.49", Due.form(50, 0, -51).part(1), -5);
        due.parts("the greatest, over and over", Due.form(1, -99, -1), 99, 99, 99, 99, 99, 99, 99, 99);
        // 50t^2 - 51 as degree 3: the row behind 1 is t (-t^2 + 100t + 50), but 0 is no next PART.
        due.parts("one below", Due.form(0, 50, 0, -51), 1);
    }

    @Says(in = "Terms 1", words = "There are 8 at most.")
    static void partsAre8AtMost(Due due) {
        // 34/21 has 7, 55/34 has 8 and ends there, 89/55 would have 9.
        due.parts("one fewer", Due.form(0, 21, -34), 1, 1, 1, 1, 1, 1, 2);
        due.parts("8", Due.form(0, 34, -55), 1, 1, 1, 1, 1, 1, 1, 2);
        due.parts("one more", Due.form(0, 55, -89), 1, 1, 1, 1, 1, 1, 1, 1);
    }

    @Says(in = "Terms 1", words = "CONVERGENT k: p by q, as PARTS 0 .. k tell it (n0 and 1 by (n1 and 1 by (..)), together), in lowest terms.")
    static void convergentsFromTheFirstToTheLast(Due due) {
        TwoLetterForms x = Due.form(0, 34, -55);
        long[] row = {1, 2, 3, 5, 8, 13, 21};
        for (int k = 0; k < row.length; k++) {
            due.eq("above " + k, x.convergent(k, 0), row[k]);
            due.eq("below " + k, x.convergent(k, 1), k == 0 ? 1 : row[k - 1]);
        }
        due.eq("the last, above", x.convergent(7, 0), 55);
        due.eq("the last, below", x.convergent(7, 1), 34);
        due.eq("behind the last", x.convergent(8, 0), Edges.NO);
        due.eq("PART 0 of 0, above", Due.form(2, 0, -1).convergent(0, 0), 0);
        due.eq("PART 0 of 0, below", Due.form(2, 0, -1).convergent(0, 1), 1);
        // The greatest there can be: 99 and 1 by 99, eight of them, far beyond an int's numbers.
        long above = 99, aboveAhead = 1;
        for (int k = 1; k < 8; k++) {
            long next = 99 * above + aboveAhead;
            aboveAhead = above;
            above = next;
        }
        due.eq("the greatest, above", Due.form(1, -99, -1).convergent(7, 0), above);
        due.eq("the greatest, below", Due.form(1, -99, -1).convergent(7, 1), aboveAhead);
        due.eq("none", Due.form(1, 0, 1).convergent(0, 0), Edges.NO);
    }
}
