/** "Terms", part 1, the set-up that is read from THE TEXT: a test for each sentence, and for each case at its edge. */
public final class SetUpEdgesTest {
    private static final String TWELVE = "t2;t2;t2;t2;t2;t2;t2;t2;t2;t2;t2;t2";

    public static void main(String[] args) {
        Edges.run(SetUpEdgesTest.class);
    }

    /** What reading a text with a FAULT answers, on an object of its own. */
    private static void fault(Due due, String text, int place) {
        due.eq("read() of '" + text + "'", Due.read(new TwoLetterForms(), text), -10 - place);
    }

    private static void done(Due due, String text, int clauses) {
        due.eq("read() of '" + text + "'", Due.read(new TwoLetterForms(), text), clauses);
    }

    @Says(in = "Terms 1", words = "A set-up is read from THE TEXT (bytes, 100 at most):")
    static void theTextHas0To100Bytes(Due due) {
        TwoLetterForms x = new TwoLetterForms();
        due.eq("empty at first", x.count(3), 0);
        for (int i = 1; i <= 100; i++) {
            due.eq("byte " + i, x.feed('d'), i);
        }
        due.eq("one more", x.feed('d'), -4);
        due.eq("full", x.count(3), 100);
    }

    @Says(in = "Terms 1", words = "A set-up is read from THE TEXT (bytes, 100 at most):")
    static void aFullTextIsReadToItsEnd(Due due) {
        // Twelve of the longest CLAUSES have 95 bytes; the FAULT is behind them, ahead of 5 bytes more.
        StringBuilder text = new StringBuilder("a0-0001");
        for (int k = 1; k < 12; k++) {
            text.append(";a1-0002");
        }
        due.eq("the longest set-up", text.length(), 95);
        done(due, text.toString(), 12);
        text.append(";a0-1");
        due.eq("the longest TEXT", text.length(), 100);
        fault(due, text.toString(), 95);
        // 100 bytes of a CLAUSE that doesn't end are told by their first byte that is one too many.
        fault(due, "=" + "0".repeat(99), 5);
    }

    @Says(in = "Terms 1", words = "CLAUSES, 1 to 12, with ; between:")
    static void thereAre1To12Clauses(Due due) {
        fault(due, "", 0);
        done(due, "t2", 1);
        done(due, "t2;t2", 2);
        done(due, TWELVE.substring(3), 11);
        done(due, TWELVE, 12);
        fault(due, TWELVE + ";t2", 35);
    }

    @Says(in = "Terms 1", words = "CLAUSES, 1 to 12, with ; between:")
    static void betweenClausesStandsOneSemicolonAndNothingElse(Due due) {
        fault(due, "t2t2", 2);
        fault(due, "t2,t2", 2);
        fault(due, "t2:t2", 2);
        fault(due, "t2;;t2", 3);
        fault(due, ";t2", 0);
        fault(due, "t2;", 3);
        fault(due, ";", 0);
    }

    @Says(in = "Terms 1", words = "d DIGIT (as degree());")
    static void clauseD(Due due) {
        TwoLetterForms x = Due.form(1, 2, 3, 4);
        due.eq("the least", Due.read(x, "d2"), 1);
        due.numbers("the least", x, 0, 0, 0);
        due.eq("the greatest", Due.read(x, "d4"), 1);
        due.numbers("the greatest", x, 0, 0, 0, 0, 0);
        due.eq("one below", Due.read(x, "d1"), 0);
        due.eq("one above", Due.read(x, "d5"), 0);
        due.eq("the least DIGIT", Due.read(x, "d0"), 0);
        due.eq("the greatest DIGIT", Due.read(x, "d9"), 0);
        due.eq("refused, so that it stays", x.told(0), 4);
        fault(due, "d", 1);
        fault(due, "d;", 1);
        fault(due, "d-2", 1);
        fault(due, "d22", 2);
        fault(due, "D2", 0);
        fault(due, "d/", 1);
        fault(due, "d:", 1);
    }

    @Says(in = "Terms 1", words = "a DIGIT NUMBER (as number());")
    static void clauseA(Due due) {
        TwoLetterForms x = Due.form(0, 0, 0);
        due.eq("the greatest", Due.read(x, "a099"), 1);
        due.eq("the least", Due.read(x, "a2-99"), 1);
        due.numbers("the edges", x, 99, 0, -99);
        due.eq("one above", Due.read(x, "a0100"), 0);
        due.eq("one below", Due.read(x, "a2-100"), 0);
        due.eq("the greatest there is to be written", Due.read(x, "a09999"), 0);
        due.eq("behind the last NUMBER", Due.read(x, "a35"), 0);
        due.eq("the greatest DIGIT", Due.read(x, "a95"), 0);
        due.numbers("refused, so that they stay", x, 99, 0, -99);
        fault(due, "a", 1);
        fault(due, "a-", 1);
        fault(due, "a0", 2);
        fault(due, "a0;", 2);
        fault(due, "a0-", 3);
        fault(due, "a0-;", 3);
    }

    @Says(in = "Terms 1", words = "= NUMBER (M; refused, if it is beyond);")
    static void clauseEqual(Due due) {
        // A NUMBER of 4 digits is never beyond M.
        TwoLetterForms x = new TwoLetterForms();
        due.eq("the greatest", Due.read(x, "=9999"), 1);
        due.eq("the greatest", x.told(1), 19999);
        due.eq("the least", Due.read(x, "=-9999"), 1);
        due.eq("the least", x.told(1), 1);
        due.eq("0", Due.read(x, "=0"), 1);
        due.eq("0", x.told(1), 10000);
        due.eq("-0", Due.read(x, "=-0"), 1);
        due.eq("-0", x.told(1), 10000);
        fault(due, "=", 1);
        fault(due, "=-", 2);
        fault(due, "=;", 1);
        fault(due, "=10000", 5);
        fault(due, "=-10000", 6);
    }

    @Says(in = "Terms 1", words = "w NUMBER (b; refused, if it is beyond);")
    static void clauseW(Due due) {
        TwoLetterForms x = new TwoLetterForms();
        due.eq("the greatest", Due.read(x, "w40"), 1);
        due.eq("the greatest", x.told(2), 40);
        due.eq("one above", Due.read(x, "w41"), 0);
        due.eq("the greatest stays", x.told(2), 40);
        due.eq("the least", Due.read(x, "w1"), 1);
        due.eq("the least", x.told(2), 1);
        due.eq("one below", Due.read(x, "w0"), 0);
        due.eq("below 0", Due.read(x, "w-1"), 0);
        due.eq("far below", Due.read(x, "w-9999"), 0);
        due.eq("far above", Due.read(x, "w9999"), 0);
        due.eq("the least stays", x.told(2), 1);
        fault(due, "w", 1);
        fault(due, "w-", 2);
        fault(due, "w00001", 5);
    }

    @Says(in = "Terms 1", words = "t DIGIT (as move()).")
    static void clauseT(Due due) {
        TwoLetterForms x = Due.form(1, 2, 3);
        due.eq("the least", Due.read(x, "t0"), 1);
        due.numbers("MOVE 0", x, 1, 4, 6);
        due.eq("the greatest", Due.read(x, "t4"), 1);
        due.numbers("MOVE 4", x, -1, -4, -6);
        due.eq("one above", Due.read(x, "t5"), 0);
        due.eq("the greatest DIGIT", Due.read(x, "t9"), 0);
        due.numbers("refused, so that they stay", x, -1, -4, -6);
        TwoLetterForms edge = Due.form(99, 0, 0);
        due.eq("a NUMBER would be 198", Due.read(edge, "t0"), 0);
        due.numbers("refused, so that they stay", edge, 99, 0, 0);
        fault(due, "t", 1);
        fault(due, "t-1", 1);
        fault(due, "t12", 2);
    }

    @Says(in = "Terms 1", words = "NUMBER: perhaps - ahead, 1 to 4 digits.")
    static void aNumberHas1To4Digits(Due due) {
        String[] numbers = {"7", "12", "123", "1234", "-7", "-12", "-123", "-1234"};
        for (String number : numbers) {
            TwoLetterForms x = new TwoLetterForms();
            due.eq("=" + number, Due.read(x, "=" + number), 1);
            due.eq("M by =" + number, x.told(1), 10000 + Integer.parseInt(number));
        }
        fault(due, "=", 1);
        fault(due, "=-", 2);
        fault(due, "=12345", 5);
        fault(due, "=-12345", 6);
        fault(due, "a012345", 6);
        fault(due, "a0-12345", 7);
    }

    @Says(in = "Terms 1", words = "NUMBER: perhaps - ahead, 1 to 4 digits.")
    static void aNumberHasOneMinusAheadAtMost(Due due) {
        fault(due, "=--1", 2);
        fault(due, "=+1", 1);
        fault(due, "=1-", 2);
        fault(due, "a0--1", 3);
        // The signs beside the digits: / is ahead of 0, : behind 9; . and , stand beside -.
        fault(due, "=/", 1);
        fault(due, "=:", 1);
        fault(due, "=1/", 2);
        fault(due, "=1:", 2);
        fault(due, "=.1", 1);
        fault(due, "=,1", 1);
        done(due, "=0;=9;=-0;=-9", 4);
    }

    @Says(in = "Terms 1", words = "Nothing else stands between (no blanks).")
    static void noBlanks(Due due) {
        fault(due, " d2", 0);
        fault(due, "d 2", 1);
        fault(due, "d2 ", 2);
        fault(due, "d2 ;t2", 2);
        fault(due, "d2; t2", 3);
        fault(due, "= 1", 1);
        fault(due, "=- 1", 2);
        fault(due, "=1 2", 2);
        fault(due, "a 01", 1);
        fault(due, "a0 1", 2);
        fault(due, "d2\n", 2);
        fault(due, "d2\0", 2);
        fault(due, "\0d2", 0);
        fault(due, "d2\177", 2);
    }

    @Says(in = "Terms 1", words = "The FAULT: the place of the first byte with which none begins so")
    static void theFaultIsTheFirstByteWithWhichNoneBeginsSo(Due due) {
        fault(due, "x", 0);
        fault(due, "xx", 0);
        fault(due, "d2;x", 3);
        fault(due, "d2;a01;q;q", 7);
        // A byte that is refused later isn't one: b 41 and NUMBER 9 begin well.
        fault(due, "w41;a91;d", 9);
        fault(due, TWELVE + "x", 35);
        fault(due, TWELVE + "5", 35);
    }

    @Says(in = "Terms 1", words = "(the end of THE TEXT, if it ends too early).")
    static void theFaultIsTheEndOfATextThatEndsTooEarly(Due due) {
        fault(due, "", 0);
        fault(due, "d", 1);
        fault(due, "d2;", 3);
        fault(due, "d2;a", 4);
        fault(due, "d2;a0", 5);
        fault(due, "d2;a0-", 6);
        fault(due, "d2;a01;=", 8);
        fault(due, "t2;t2;t2;t2;t2;t2;t2;t2;t2;t2;t2;", 33);
    }

    @Says(in = "Terms 1", words = "Without it they are done, one behind the other;")
    static void clausesAreDoneOneBehindTheOther(Due due) {
        TwoLetterForms x = Due.form(5, 5, 5, 5);
        due.eq("each on what the one ahead left", Due.read(x, "a01;d2;a01;t0;a2-9;=5;=6"), 7);
        due.numbers("each on what the one ahead left", x, 1, 2, -9);
        due.eq("the last M", x.told(1), 10006);
    }

    @Says(in = "Terms 1", words = "Without it they are done, one behind the other;")
    static void withAFaultNoneIsDone(Due due) {
        TwoLetterForms x = Due.form(5, 5, 5, 5);
        due.eq("the last byte", Due.read(x, "d2;=7;w3;x"), -19);
        due.eq("the end", Due.read(x, "d2;=7;w3;t"), -20);
        due.eq("the thirteenth", Due.read(x, "d2;=7;w3;" + TWELVE), -10 - 35);
        due.numbers("none", x, 5, 5, 5, 5);
        due.eq("M", x.told(1), 10001);
        due.eq("b", x.told(2), 10);
    }

    @Says(in = "Terms 1", words = "those that would be refused aren't.")
    static void refusedClausesAreNotDoneAndNotCounted(Due due) {
        TwoLetterForms x = Due.form(50, 0, 3);
        due.eq("all refused", Due.read(x, "d5;d1;a30;a0100;a0-100;w0;w41;w-1;t5;t9;t0;t1"), 0);
        due.numbers("all refused", x, 50, 0, 3);
        due.eq("b", x.told(2), 10);
        due.eq("M", x.told(1), 10001);
        // a31 is refused as long as DEGREE is 2, and isn't any more then.
        due.eq("some refused", Due.read(x, "a31;d3;a31;w41;=9999"), 3);
        due.numbers("some refused", x, 0, 0, 0, 1);
        due.eq("M", x.told(1), 19999);
        due.eq("the least answers of what is done count", Due.read(x, "a0-99;a05;=-9999;=3"), 4);
    }
}
