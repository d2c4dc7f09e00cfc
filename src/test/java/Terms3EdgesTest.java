/** "Terms", part 3, "Answers", "In doubt" and the constants: a test for each sentence, and for each case at its edge. */
public final class Terms3EdgesTest {
    private static final int LEAST = Edges.LEAST, MOST = Edges.MOST;
    private static final int BYTES = 0, SHORTS = 1, LONGS = 3, BOOLEANS = 4;

    public static void main(String[] args) {
        Edges.run(Terms3EdgesTest.class);
    }

    // ---- tapes

    @Says(in = "Terms 3", words = "TAPES 0 .. 5 hold nothing (at first),")
    static void tapesAre0To5AndHoldNothingAtFirst(Due due) {
        TwoLetterForms x = new TwoLetterForms();
        due.eq("below the first", x.item(-1, 0, 1), -1);
        for (int tape = 0; tape <= 5; tape++) {
            due.eq("nothing in " + tape, x.item(tape, 0, 1), -11);
            due.eq("nothing in " + tape, x.peek(tape, 0), Edges.NO);
            due.eq("nothing to judge in " + tape, x.judge(tape, 0), 100);
            due.eq("nothing to shift in " + tape, x.shift(tape, 0, tape, 0, 0), -11);
        }
        due.eq("behind the last", x.item(6, 0, 1), -1);
        due.eq("the first becomes a row", x.tape(0, BYTES, 1), 1);
        due.eq("the last becomes a row", x.tape(5, BOOLEANS, 1), 1);
        due.eq("below the first", x.tape(-1, BYTES, 1), -1);
        due.eq("behind the last", x.tape(6, BYTES, 1), -1);
    }

    @Says(in = "Terms 3", words = "or a row of 0 bytes, 1 shorts, 2 ints, 3 longs, 4 booleans (items 0, 1).")
    static void sortsAre0To4(Due due) {
        TwoLetterForms x = new TwoLetterForms();
        due.eq("below the first", x.tape(0, -2, 1), -2);
        due.eq("behind the last", x.tape(0, 5, 1), -2);
        long[] items = {-1, -1, -1, -1, 1};
        long[] greater = {0, 256, 256, 256, 1};
        long[] muchGreater = {0, 0, 65536, 65536, 1};
        long[] theGreatest = {-1, -1, -1, Long.MAX_VALUE, 1};
        for (int sort = BYTES; sort <= BOOLEANS; sort++) {
            due.eq("sort " + sort, x.tape(sort, sort, 4), 1);
            x.item(sort, 0, -1);
            x.item(sort, 1, 256);
            x.item(sort, 2, 65536);
            x.item(sort, 3, Long.MAX_VALUE);
            due.eq("-1 in sort " + sort, x.peek(sort, 0), items[sort]);
            due.eq("256 in sort " + sort, x.peek(sort, 1), greater[sort]);
            due.eq("65536 in sort " + sort, x.peek(sort, 2), muchGreater[sort]);
            due.eq("the greatest in sort " + sort, x.peek(sort, 3), theGreatest[sort]);
        }
        x.item(BOOLEANS, 0, 0);
        due.eq("a boolean 0", x.peek(BOOLEANS, 0), 0);
    }

    /** NUMBERS 1 -2 3 told from place 2 of a TAPE 0 of 5 shorts. */
    private static TwoLetterForms told() {
        TwoLetterForms x = Due.form(1, -2, 3);
        x.tape(0, SHORTS, 5);
        x.item(0, 2, 1);
        x.item(0, 3, -2);
        x.item(0, 4, 3);
        return x;
    }

    @Says(in = "Terms 3", words = "NUMBERS told by a row of shorts, from a place on, are JUDGED: the first i that is otherwise; -5: none;")
    static void judgedIsTheFirstThatIsOtherwise(Due due) {
        TwoLetterForms x = told();
        due.eq("none, though the row ends with the last NUMBER", x.judge(0, 2), -5);
        x.item(0, 4, 4);
        due.eq("the last", x.judge(0, 2), 2);
        x.item(0, 3, 2);
        due.eq("the second", x.judge(0, 2), 1);
        x.item(0, 2, -1);
        due.eq("the first", x.judge(0, 2), 0);
        due.eq("the first, though the row ends ahead of the last", x.judge(0, 4), 0);
    }

    @Says(in = "Terms 3", words = "NUMBERS told by a row of shorts, from a place on, are JUDGED: the first i that is otherwise; -5: none;")
    static void judgedWithTheEdgesOfNumbersAndShorts(Due due) {
        TwoLetterForms x = Due.form(-99, 0, 99);
        x.tape(5, SHORTS, 60);
        x.item(5, 57, -99);
        x.item(5, 59, 99);
        due.eq("at the end of the longest row", x.judge(5, 57), -5);
        x.item(5, 59, 99 + 65536);
        due.eq("the lowest bits are 99", x.judge(5, 57), -5);
        x.item(5, 59, 99 + 256);
        due.eq("a short has more than 8 bits", x.judge(5, 57), 2);
        x.item(5, 57, Short.MIN_VALUE);
        due.eq("the least short", x.judge(5, 57), 0);
        due.eq("zeros are told by an empty place", new TwoLetterForms().judge(5, 0), 100);
        TwoLetterForms zeros = new TwoLetterForms();
        zeros.tape(0, SHORTS, 4);
        due.eq("zeros", zeros.judge(0, 0), -5);
        zeros.degree(4);
        due.eq("zeros of one degree more", zeros.judge(0, 0), 104);
    }

    @Says(in = "Terms 3", words = "100 and how many were looked at, if the row ends ahead of that")
    static void judgedWhereTheRowEnds(Due due) {
        TwoLetterForms x = told();
        x.tape(1, SHORTS, 2);
        x.item(1, 0, 1);
        x.item(1, 1, -2);
        due.eq("two were looked at", x.judge(1, 0), 102);
        x.tape(1, SHORTS, 1);
        x.item(1, 0, 1);
        due.eq("one was", x.judge(1, 0), 101);
        due.eq("none was, at the row's end", x.judge(1, 1), 100);
        due.eq("none was, behind the row's end", x.judge(1, 2), 100);
        due.eq("none was, far behind", x.judge(1, MOST), 100);
        x.tape(1, SHORTS, 0);
        due.eq("none was, in a row of none", x.judge(1, 0), 100);
        TwoLetterForms most = Due.form(1, 1, 1, 1, 1);
        most.tape(0, SHORTS, 4);
        for (int i = 0; i < 4; i++) {
            most.item(0, i, 1);
        }
        due.eq("the most: four were", most.judge(0, 0), 104);
    }

    @Says(in = "Terms 3", words = "(or the place is below 0, or the TAPE holds nothing).")
    static void judgedBelow0OrInNothing(Due due) {
        TwoLetterForms x = told();
        due.eq("one below 0", x.judge(0, -1), 100);
        due.eq("far below 0", x.judge(0, LEAST), 100);
        due.eq("nothing", x.judge(1, 0), 100);
        due.eq("nothing, from below 0", x.judge(1, -1), 100);
        due.eq("nothing, from far behind", x.judge(1, MOST), 100);
        x.tape(0, -1, 0);
        due.eq("nothing any more", x.judge(0, 2), 100);
    }

    @Says(in = "Terms 3", words = "The host's refusals: NOTHING (-11): nothing is there; CAST (-12): another sort; PLACE (-13): no such place; SIZE (-14): a size below 0.")
    static void theHostsRefusals(Due due) {
        TwoLetterForms x = told();
        x.tape(1, LONGS, 5);
        due.eq("NOTHING", x.item(2, 0, 1), -11);
        due.eq("NOTHING", x.shift(0, 0, 2, 0, 1), -11);
        due.eq("CAST", x.shift(0, 0, 1, 0, 1), -12);
        due.eq("CAST", x.judge(1, 0), -12);
        due.eq("PLACE", x.item(0, 5, 1), -13);
        due.eq("PLACE", x.shift(0, 0, 0, 1, 5), -13);
        due.eq("SIZE", x.tape(0, SHORTS, -1), -14);
    }

    // ---- answers

    @Says(in = "Answers", words = "NONE (-1) no such number; BAD (-2) a number is not as told; STATE (-3) as told; FULL (-4);")
    static void theAnswersThatRefuse(Due due) {
        TwoLetterForms x = Due.form(99, 0, 0);
        due.eq("NONE", x.of(3), -1);
        due.eq("BAD", x.equal(10000), -2);
        due.eq("STATE", x.move(0), -3);
        due.eq("STATE", x.undo(), -3);
        for (int k = 0; k < 4; k++) {
            x.see(0, 0, 0);
        }
        due.eq("FULL", x.see(0, 0, 0), -4);
        due.eq("NONE", TwoLetterForms.NONE, -1);
        due.eq("BAD", TwoLetterForms.BAD, -2);
        due.eq("STATE", TwoLetterForms.STATE, -3);
        due.eq("FULL", TwoLetterForms.FULL, -4);
    }

    @Says(in = "Answers", words = "the first that a call's words name.")
    static void badIsNamedAheadOfState(Due due) {
        TwoLetterForms x = Due.form(99, 99, 99);
        due.eq("turn() whose NUMBERS would be beyond, too", x.turn(10, 9, 9, 9), -2);
    }

    @Says(in = "Answers", words = "the first that a call's words name.")
    static void noneIsNamedAheadOfBad(Due due) {
        TwoLetterForms x = new TwoLetterForms();
        due.eq("number()", x.number(4, 100), -1);
        due.eq("book()", x.book(4, 100), -1);
        due.eq("event()", x.event(3, 100), -1);
        due.eq("tape()", x.tape(6, 5, 61), -1);
    }

    @Says(in = "Answers", words = "the first that a call's words name.")
    static void noneIsNamedAheadOfWhatIsNotAsMany(Due due) {
        TwoLetterForms x = new TwoLetterForms();
        due.eq("answer()", x.answer(0, 0), -5);
        due.eq("answer()", x.answer(0, 3), -1);
        due.eq("unit()", x.unit(104, 0), -5);
        due.eq("unit()", x.unit(104, 4), -1);
    }

    @Says(in = "Answers", words = "the first that a call's words name.")
    static void noneAndBadAreNamedAheadOfFull(Due due) {
        TwoLetterForms x = new TwoLetterForms();
        for (int k = 0; k < 8; k++) {
            x.see(0, 0, 0);
            x.event(0, 0);
            x.book(0, 0);
        }
        for (int k = 0; k < 100; k++) {
            x.feed('d');
        }
        due.eq("see() FULL", x.see(9, 9, 9999), -4);
        due.eq("see() BAD", x.see(10, 0, 0), -2);
        due.eq("see() BAD", x.see(0, 10, 0), -2);
        due.eq("see() BAD", x.see(0, 0, 10000), -2);
        due.eq("event() FULL", x.event(2, 99), -4);
        due.eq("event() NONE", x.event(3, 0), -1);
        due.eq("event() NONE", x.event(0, 4), -1);
        due.eq("event() NONE", x.event(1, 5), -1);
        due.eq("event() BAD", x.event(2, 100), -2);
        due.eq("book() FULL", x.book(3, 99), -4);
        due.eq("book() NONE", x.book(4, 0), -1);
        due.eq("book() BAD", x.book(3, 100), -2);
        due.eq("feed() FULL", x.feed(127), -4);
        due.eq("feed() BAD", x.feed(128), -2);
    }

    @Says(in = "Answers", words = "the first that a call's words name.")
    static void theHostsRefusalsInTheirOrder(Due due) {
        TwoLetterForms x = told();
        x.tape(1, LONGS, 5);
        due.eq("tape() BAD ahead of SIZE", x.tape(0, 5, -1), -2);
        due.eq("tape() NONE ahead of SIZE", x.tape(6, 0, -1), -1);
        due.eq("item() NONE ahead of PLACE", x.item(6, -1, 0), -1);
        due.eq("item() NOTHING ahead of PLACE", x.item(2, -1, 0), -11);
        due.eq("judge() NONE ahead of CAST", x.judge(6, 0), -1);
        due.eq("judge() CAST ahead of a place below 0", x.judge(1, -1), -12);
        due.eq("shift() NONE ahead of NOTHING", x.shift(2, 0, 6, 0, 1), -1);
        due.eq("shift() NONE ahead of PLACE", x.shift(-1, 0, 0, 0, -1), -1);
        due.eq("shift() NOTHING ahead of CAST and PLACE", x.shift(1, -1, 2, -1, -1), -11);
        due.eq("shift() CAST ahead of PLACE", x.shift(0, -1, 1, -1, -1), -12);
        due.eq("shift() PLACE", x.shift(0, -1, 0, -1, -1), -13);
    }

    // ---- in doubt

    @Says(in = "In doubt", words = "NUMBERS of a set-up may have zeros ahead.")
    static void zerosAheadInASetUp(Due due) {
        TwoLetterForms x = new TwoLetterForms();
        due.eq("read()", Due.read(x, "a00007;a1-0007;a20000;=0012;w0001"), 5);
        due.numbers("zeros ahead", x, 7, -7, 0, 0);
        due.eq("M", x.told(1), 10012);
        due.eq("b", x.told(2), 1);
        due.eq("one zero too many", Due.read(x, "=00012"), -15);
    }

    @Says(in = "In doubt", words = "A thirteenth CLAUSE is a FAULT at the ; behind the twelfth.")
    static void theThirteenthClauseIsAFault(Due due) {
        String twelve = "=1;=1;=1;=1;=1;=1;=1;=1;=1;=1;=1;=2";
        TwoLetterForms x = new TwoLetterForms();
        due.eq("a whole one", Due.read(x, twelve + ";=3"), -10 - 35);
        due.eq("one that is none", Due.read(x, twelve + ";x"), -10 - 35);
        due.eq("the ; alone", Due.read(x, twelve + ";"), -10 - 35);
        due.eq("none is done", x.told(1), 10001);
        due.eq("twelve", Due.read(x, twelve), 12);
        due.eq("the twelfth is done", x.told(1), 10002);
    }

    @Says(in = "In doubt", words = "u z less v w of a TURN may be 0.")
    static void aTurnThatGathersAllTwosOnALine(Due due) {
        TwoLetterForms x = Due.form(1, 2, 3);
        due.eq("x + y, x + y", x.turn(1, 1, 1, 1), 1);
        due.numbers("6 (x + y)^2", x, 6, 12, 6);
        due.eq("all 0", x.turn(0, 0, 0, 0), 1);
        due.numbers("all 0", x, 0, 0, 0);
    }

    @Says(in = "In doubt", words = "With nothing SEEN 199 fit.")
    static void withNothingSeenAllFit(Due due) {
        TwoLetterForms x = Due.form(99, -99, 0, 1, 2);
        for (int i = 0; i <= 4; i++) {
            due.eq("NUMBER " + i, x.fits(i, 0), 199);
            due.eq("the least is -99", x.fits(i, 1), 1);
        }
        x.see(1, 1, 9999);
        due.eq("something SEEN", x.fits(0, 0), 0);
        x.see(-100, 0, 0);
        due.eq("nothing any more", x.fits(0, 0), 199);
    }

    @Says(in = "In doubt", words = "ODDS of none are 0 by 1.")
    static void oddsOfNone(Due due) {
        TwoLetterForms x = Due.equation(9999, 40, 0, 0, 0);
        due.eq("above the line", x.odds(0), 0);
        due.eq("below the line", x.odds(1), 1);
        TwoLetterForms y = Due.equation(0, 1, -1, 0, -1);
        due.eq("above the line", y.odds(0), 0);
        due.eq("below the line", y.odds(1), 1);
    }

    @Says(in = "In doubt", words = "THE IMAGE stays behind undo().")
    static void theImageStaysBehindUndo(Due due) {
        TwoLetterForms x = Due.form(1, 2, 3);
        x.image();
        for (int k = 2; k <= 4; k++) {
            x.degree(k);
            x.number(0, 9);
            x.event(0, 0);
            x.book(0, 0);
            x.see(0, 0, 0);
            due.eq("undo()", x.undo(), 2);
            due.numbers("undo()", x, 1, 2, 3);
            due.eq("EVENTS", x.count(1), 0);
            due.eq("the BOOK", x.count(2), 0);
            due.eq("SEEN", x.count(0), 0);
        }
    }

    @Says(in = "Constants", words = "`NO = Long.MIN_VALUE`: There is no such number.")
    static void noIsTheLeastLong(Due due) {
        due.eq("NO", TwoLetterForms.NO, Long.MIN_VALUE);
        TwoLetterForms x = Due.form(1, 0, 1);
        due.eq("value()", x.value(1000, 0), Long.MIN_VALUE);
        due.eq("convergent()", x.convergent(0, 0), Long.MIN_VALUE);
        due.eq("odds()", x.odds(2), Long.MIN_VALUE);
        due.eq("mean()", x.mean(2), Long.MIN_VALUE);
        due.eq("peek()", x.peek(0, 0), Long.MIN_VALUE);
        // An item may be that number, too: then it is the item.
        x.tape(0, LONGS, 1);
        due.eq("item()", x.item(0, 0, Long.MIN_VALUE), 1);
        due.eq("peek()", x.peek(0, 0), Long.MIN_VALUE);
    }
}
