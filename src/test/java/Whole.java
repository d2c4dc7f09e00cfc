import java.util.ArrayList;
import java.util.List;

/** All that can be seen of an object, asked in one order, so that two objects can be held against each other. */
final class Whole {
    private final TwoLetterForms x;
    private final List<String> rows = new ArrayList<>();

    private Whole(TwoLetterForms x) {
        this.x = x;
    }

    /** Some 300 calls; it reads THE TEXT and goes back to THE IMAGE, so that the object is no more what it was. */
    static List<String> of(TwoLetterForms x) {
        Whole whole = new Whole(x);
        whole.told();
        whole.tapes();
        whole.row("read()", x.read());
        whole.told();
        whole.row("undo()", x.undo());
        whole.told();
        return whole.rows;
    }

    private void row(String call, long answer) {
        rows.add(call + " answered " + answer);
    }

    private void told() {
        for (int what = 0; what <= 7; what++) {
            row("told(" + what + ")", x.told(what));
        }
        for (int i = 0; i <= 4; i++) {
            row("of(" + i + ")", x.of(i));
            row("fits(" + i + ", 0)", x.fits(i, 0));
            row("fits(" + i + ", 1)", x.fits(i, 1));
        }
        for (int what = 0; what <= 2; what++) {
            row("answer(1, " + what + ")", x.answer(1, what));
            row("prime(1, " + what + ")", x.prime(1, what));
            row("reason(" + what + ")", x.reason(what));
            row("after(" + what + ")", x.after(what));
        }
        for (int what = 0; what <= 3; what++) {
            row("unit(1, " + what + ")", x.unit(1, what));
            row("count(" + what + ")", x.count(what));
        }
        for (int part = 0; part <= 1; part++) {
            row("convergent(2, " + part + ")", x.convergent(2, part));
            row("odds(" + part + ")", x.odds(part));
            row("mean(" + part + ")", x.mean(part));
            row("family(" + part + ")", x.family(part));
            row("part(" + part + ")", x.part(part));
        }
        row("value(2, 3)", x.value(2, 3));
        row("looked()", x.looked());
    }

    private void tapes() {
        for (int tape = 0; tape <= 5; tape++) {
            for (int i = 0; i <= 4; i++) {
                row("peek(" + tape + ", " + i + ")", x.peek(tape, i));
            }
            // Refused, but telling whether there is a row, and whether it is the shorts or bytes of others.
            row("item(" + tape + ", 60, 0)", x.item(tape, 60, 0));
            row("judge(" + tape + ", 0)", x.judge(tape, 0));
            row("shift(" + tape + ", 0, 0, 0, 0)", x.shift(tape, 0, 0, 0, 0));
            row("shift(" + tape + ", 0, 1, 0, 0)", x.shift(tape, 0, 1, 0, 0));
        }
    }
}
