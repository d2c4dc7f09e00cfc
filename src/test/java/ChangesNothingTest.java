import java.util.function.Supplier;
import java.util.function.ToLongFunction;

/** "Answers": what is refused, and what is asked, changes nothing; a test for each call, on objects that hold something. */
public final class ChangesNothingTest {
    private static final int LEAST = Edges.LEAST;
    private static final int BYTES = 0, SHORTS = 1, LONGS = 3, BOOLEANS = 4;

    public static void main(String[] args) {
        Edges.run(ChangesNothingTest.class);
    }

    /** Something of all but THE TEXT, room for more, and an IMAGE of something else. */
    private static TwoLetterForms withoutText() {
        TwoLetterForms x = Due.equation(7, 5, 99, 0, 0, 0, 1);
        x.see(2, 1, 5);
        x.event(1, 2);
        x.book(4, 9);
        x.image();
        x.degree(2);
        x.number(0, 1);
        x.number(2, -2);
        x.equal(1);
        x.window(9);
        x.see(-100, 0, 0);
        x.see(3, 2, 1);
        x.see(1, 0, 1);
        x.event(0, 2);
        x.event(2, 3);
        x.book(-1, 0);
        x.book(0, 1);
        x.book(2, 2);
        Due.fill(x, 0, SHORTS, 1, 0, -2);
        Due.fill(x, 1, LONGS, 7, -8);
        Due.fill(x, 2, BYTES);
        Due.fill(x, 5, BOOLEANS, 1, 0, 1);
        return x;
    }

    /** The same with a set-up that waits to be read. */
    private static TwoLetterForms some() {
        TwoLetterForms x = withoutText();
        Due.feed(x, "a15;=6;t2");
        return x;
    }

    /** The same with rows and a TEXT that are full, and NUMBERS that any MOVE 0 or 1 brings beyond. */
    private static TwoLetterForms full() {
        TwoLetterForms x = some();
        x.number(0, 99);
        x.number(1, 99);
        x.number(2, 99);
        for (int k = 0; k < 8; k++) {
            x.see(1, k, 9);
            x.event(2, k);
            x.book(1, 99);
        }
        Due.feed(x, ";w3".repeat(9) + ";a17".repeat(16));
        return x;
    }

    /** No IMAGE, nothing on TAPES, nothing at all. */
    private static TwoLetterForms none() {
        return new TwoLetterForms();
    }

    private static void leaves(Due due, String name, Supplier<TwoLetterForms> made, ToLongFunction<TwoLetterForms> call, long want) {
        TwoLetterForms x = made.get();
        due.eq(name, call.applyAsLong(x), want);
        due.same("behind " + name, Whole.of(x), Whole.of(made.get()));
    }

    private static void refused(Due due, String name, ToLongFunction<TwoLetterForms> call, long want) {
        leaves(due, name, ChangesNothingTest::some, call, want);
        leaves(due, name, ChangesNothingTest::full, call, want);
    }

    private static void asked(Due due, String name, ToLongFunction<TwoLetterForms> call) {
        leaves(due, name, ChangesNothingTest::some, call, call.applyAsLong(some()));
        leaves(due, name, ChangesNothingTest::full, call, call.applyAsLong(full()));
        leaves(due, name, ChangesNothingTest::none, call, call.applyAsLong(none()));
    }

    @Says(in = "Answers", words = "What is answered so changes nothing;")
    static void theObjectsHoldWhatTheTestsNeed(Due due) {
        for (int what = 0; what <= 2; what++) {
            due.eq("some: count(" + what + ")", some().count(what), 2 + (what == 1 ? 1 : 0));
        }
        due.eq("some: the set-up", some().read(), 3);
        due.eq("some: THE IMAGE", some().undo(), 4);
        int[] most = {4, 8, 8, 100};
        for (int what = 0; what <= 3; what++) {
            due.eq("full: count(" + what + ")", full().count(what), most[what]);
        }
        TwoLetterForms other = some();
        other.number(1, 1);
        due.yes("a change is seen", !Whole.of(other).equals(Whole.of(some())));
    }

    // ---- refused calls

    @Says(in = "Answers", words = "What is answered so changes nothing;")
    static void refusedDegree(Due due) {
        refused(due, "degree(1)", x -> x.degree(1), -2);
        refused(due, "degree(5)", x -> x.degree(5), -2);
        refused(due, "degree(least)", x -> x.degree(LEAST), -2);
    }

    @Says(in = "Answers", words = "What is answered so changes nothing;")
    static void refusedNumber(Due due) {
        refused(due, "number(-1, 0)", x -> x.number(-1, 0), -1);
        refused(due, "number(3, 0)", x -> x.number(3, 0), -1);
        refused(due, "number(0, 100)", x -> x.number(0, 100), -2);
        refused(due, "number(2, -100)", x -> x.number(2, -100), -2);
    }

    @Says(in = "Answers", words = "What is answered so changes nothing;")
    static void refusedEqual(Due due) {
        refused(due, "equal(10000)", x -> x.equal(10000), -2);
        refused(due, "equal(-10000)", x -> x.equal(-10000), -2);
    }

    @Says(in = "Answers", words = "What is answered so changes nothing;")
    static void refusedWindow(Due due) {
        refused(due, "window(0)", x -> x.window(0), -2);
        refused(due, "window(41)", x -> x.window(41), -2);
    }

    @Says(in = "Answers", words = "What is answered so changes nothing;")
    static void refusedMove(Due due) {
        refused(due, "move(-1)", x -> x.move(-1), -1);
        refused(due, "move(5)", x -> x.move(5), -1);
        leaves(due, "move(0)", ChangesNothingTest::full, x -> x.move(0), -3);
        leaves(due, "move(1)", ChangesNothingTest::beyondAtTheLast, x -> x.move(1), -3);
    }

    /** By MOVE 1 the last NUMBER alone would be beyond: 1, -51, 100. */
    private static TwoLetterForms beyondAtTheLast() {
        return Due.form(1, -49, 50);
    }

    @Says(in = "Answers", words = "What is answered so changes nothing;")
    static void refusedTurn(Due due) {
        refused(due, "turn(10, 0, 0, 1)", x -> x.turn(10, 0, 0, 1), -2);
        refused(due, "turn(1, 0, 0, -10)", x -> x.turn(1, 0, 0, -10), -2);
        refused(due, "turn(9, 9, 1, 1)", x -> x.turn(9, 9, 1, 1), -3);
    }

    @Says(in = "Answers", words = "What is answered so changes nothing;")
    static void refusedFeed(Due due) {
        refused(due, "feed(-1)", x -> x.feed(-1), -2);
        refused(due, "feed(128)", x -> x.feed(128), -2);
        leaves(due, "feed('t')", ChangesNothingTest::full, x -> x.feed('t'), -4);
    }

    @Says(in = "Promise 9", words = "THE TEXT, which is empty then (by a FAULT, too), is a set-up:")
    static void aFaultEmptiesTheTextAndChangesNothingElse(Due due) {
        leaves(due, "read() of an empty TEXT", ChangesNothingTest::withoutText, x -> x.read(), -10);
        TwoLetterForms x = some();
        Due.feed(x, ";d4x");
        due.eq("read()", x.read(), -10 - 12);
        due.same("behind the FAULT", Whole.of(x), Whole.of(withoutText()));
        TwoLetterForms y = full();
        due.eq("read() of a full TEXT", y.read(), -10 - 36);
        due.eq("behind the FAULT", y.count(3), 0);
        due.numbers("behind the FAULT", y, 99, 99, 99);
    }

    @Says(in = "Answers", words = "What is answered so changes nothing;")
    static void refusedSee(Due due) {
        refused(due, "see(10, 0, 0)", x -> x.see(10, 0, 0), -2);
        refused(due, "see(0, -100, 0)", x -> x.see(0, -100, 0), -2);
        refused(due, "see(0, 0, 10000)", x -> x.see(0, 0, 10000), -2);
        leaves(due, "see(0, 0, 5)", ChangesNothingTest::full, x -> x.see(0, 0, 5), -4);
    }

    @Says(in = "Answers", words = "What is answered so changes nothing;")
    static void refusedEvent(Due due) {
        refused(due, "event(3, 0)", x -> x.event(3, 0), -1);
        refused(due, "event(-2, 0)", x -> x.event(-2, 0), -1);
        refused(due, "event(0, 3)", x -> x.event(0, 3), -1);
        refused(due, "event(1, 5)", x -> x.event(1, 5), -1);
        refused(due, "event(2, 100)", x -> x.event(2, 100), -2);
        leaves(due, "event(1, 4)", ChangesNothingTest::full, x -> x.event(1, 4), -4);
    }

    @Says(in = "Answers", words = "What is answered so changes nothing;")
    static void refusedBook(Due due) {
        refused(due, "book(3, 0)", x -> x.book(3, 0), -1);
        refused(due, "book(-2, 0)", x -> x.book(-2, 0), -1);
        refused(due, "book(0, 100)", x -> x.book(0, 100), -2);
        leaves(due, "book(0, 5)", ChangesNothingTest::full, x -> x.book(0, 5), -4);
    }

    @Says(in = "Answers", words = "What is answered so changes nothing;")
    static void refusedUndo(Due due) {
        leaves(due, "undo()", ChangesNothingTest::none, x -> x.undo(), -3);
        leaves(due, "undo()", ChangesNothingTest::beyondAtTheLast, x -> x.undo(), -3);
    }

    @Says(in = "Answers", words = "What is answered so changes nothing;")
    static void refusedTape(Due due) {
        refused(due, "tape(6, 0, 1)", x -> x.tape(6, 0, 1), -1);
        refused(due, "tape(-1, -1, 0)", x -> x.tape(-1, -1, 0), -1);
        refused(due, "tape(0, 5, 1)", x -> x.tape(0, 5, 1), -2);
        refused(due, "tape(0, 0, 61)", x -> x.tape(0, 0, 61), -2);
        refused(due, "tape(0, 0, -1)", x -> x.tape(0, 0, -1), -14);
        refused(due, "tape(3, 0, -1)", x -> x.tape(3, 0, -1), -14);
    }

    @Says(in = "Answers", words = "What is answered so changes nothing;")
    static void refusedItem(Due due) {
        refused(due, "item(6, 0, 9)", x -> x.item(6, 0, 9), -1);
        refused(due, "item(3, 0, 9)", x -> x.item(3, 0, 9), -11);
        refused(due, "item(0, 3, 9)", x -> x.item(0, 3, 9), -13);
        refused(due, "item(0, -1, 9)", x -> x.item(0, -1, 9), -13);
        refused(due, "item(2, 0, 9)", x -> x.item(2, 0, 9), -13);
    }

    @Says(in = "Answers", words = "What is answered so changes nothing;")
    static void refusedShift(Due due) {
        refused(due, "shift(0, 0, 6, 0, 1)", x -> x.shift(0, 0, 6, 0, 1), -1);
        refused(due, "shift(0, 0, 3, 0, 1)", x -> x.shift(0, 0, 3, 0, 1), -11);
        refused(due, "shift(0, 0, 1, 0, 1)", x -> x.shift(0, 0, 1, 0, 1), -12);
        refused(due, "shift(0, 0, 0, 1, 3)", x -> x.shift(0, 0, 0, 1, 3), -13);
        refused(due, "shift(0, 2, 0, 0, 2)", x -> x.shift(0, 2, 0, 0, 2), -13);
        refused(due, "shift(0, 0, 0, 1, -1)", x -> x.shift(0, 0, 0, 1, -1), -13);
    }

    // ---- calls that ask

    @Says(in = "Answers", words = "what is asked changes nothing.")
    static void askedOfTheForm(Due due) {
        asked(due, "of(0)", x -> x.of(0));
        asked(due, "of(9)", x -> x.of(9));
        asked(due, "value(9, 9)", x -> x.value(9, 9));
        for (int what = -1; what <= 8; what++) {
            int one = what;
            asked(due, "told(" + what + ")", x -> x.told(one));
        }
    }

    @Says(in = "Terms 2", words = "All that follows is asked, and changes nothing.")
    static void askedForReasonsFitsOddsAndMean(Due due) {
        asked(due, "reason(2)", x -> x.reason(2));
        asked(due, "fits(0, 0)", x -> x.fits(0, 0));
        asked(due, "fits(2, 1)", x -> x.fits(2, 1));
        asked(due, "odds(0)", x -> x.odds(0));
        asked(due, "mean(1)", x -> x.mean(1));
        asked(due, "looked()", x -> x.looked());
    }

    @Says(in = "Terms 2", words = "All that follows is asked, and changes nothing.")
    static void askedForWhatIsAfter(Due due) {
        for (int what = 0; what <= 2; what++) {
            int one = what;
            asked(due, "after(" + what + ")", x -> x.after(one));
        }
    }

    @Says(in = "Answers", words = "what is asked changes nothing.")
    static void askedForAnswersUnitsFamiliesAndParts(Due due) {
        for (int what = 0; what <= 3; what++) {
            int one = what;
            asked(due, "answer(0, " + what + ")", x -> x.answer(0, one));
            asked(due, "unit(0, " + what + ")", x -> x.unit(0, one));
            asked(due, "prime(5, " + what + ")", x -> x.prime(5, one));
        }
        asked(due, "family(0)", x -> x.family(0));
        asked(due, "part(7)", x -> x.part(7));
        asked(due, "convergent(7, 0)", x -> x.convergent(7, 0));
    }

    @Says(in = "Answers", words = "what is asked changes nothing.")
    static void askedForJudgementsCountsAndItems(Due due) {
        asked(due, "judge(0, 0)", x -> x.judge(0, 0));
        asked(due, "judge(1, 0)", x -> x.judge(1, 0));
        asked(due, "judge(3, 0)", x -> x.judge(3, 0));
        asked(due, "count(3)", x -> x.count(3));
        asked(due, "count(4)", x -> x.count(4));
        asked(due, "peek(0, 2)", x -> x.peek(0, 2));
        asked(due, "peek(6, 0)", x -> x.peek(6, 0));
        asked(due, "shift() of none", x -> x.shift(0, 0, 0, 0, 0));
    }

    @Says(in = "Answers", words = "what is asked changes nothing.")
    static void anImageChangesNothingButTheImage(Due due) {
        TwoLetterForms x = some();
        x.image();
        TwoLetterForms y = some();
        due.numbers("behind image()", x, 1, 0, -2);
        for (int what = 0; what <= 7; what++) {
            due.eq("told(" + what + ") behind image()", x.told(what), y.told(what));
        }
        for (int what = 0; what <= 3; what++) {
            due.eq("count(" + what + ") behind image()", x.count(what), y.count(what));
        }
    }
}
