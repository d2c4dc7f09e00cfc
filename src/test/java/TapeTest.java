/** Promises 28 to 35: judging, the image, counts, tapes. */
public final class TapeTest {
    private static final Due due = new Due("TapeTest");
    private static final int LEAST = Integer.MIN_VALUE, MOST = Integer.MAX_VALUE;
    private static final long NO = TwoLetterForms.NO;

    public static void main(String[] args) {
        judge();
        image();
        count();
        tape();
        item();
        peek();
        shift();
        shiftRefused();
        due.end();
    }

    private static void judge() {
        TwoLetterForms x = Due.form(1, -2, 3);
        due.eq("tape", x.judge(6, 0), -1);
        due.eq("tape", x.judge(-1, 0), -1);
        due.eq("tape", x.judge(LEAST, LEAST), -1);
        due.eq("nothing", x.judge(0, 0), 100);
        due.eq("nothing", x.judge(0, -1), 100);
        for (int sort : new int[] {0, 2, 3, 4}) {
            x.tape(0, sort, 3);
            due.eq("sort " + sort, x.judge(0, 0), -12);
            due.eq("cast ahead of the place", x.judge(0, -1), -12);
        }
        x.tape(0, 1, 5);
        due.eq("the first", x.judge(0, 0), 0);
        x.item(0, 2, 1);
        due.eq("the second", x.judge(0, 2), 1);
        x.item(0, 3, -2);
        due.eq("the third", x.judge(0, 2), 2);
        x.item(0, 4, 3);
        due.eq("none", x.judge(0, 2), -5);
        due.eq("otherwise ahead of the end", x.judge(0, 3), 0);
        x.item(0, 4, 1);
        due.eq("1 and the end", x.judge(0, 4), 101);
        due.eq("behind the end", x.judge(0, 5), 100);
        due.eq("far behind the end", x.judge(0, MOST), 100);
        due.eq("below 0", x.judge(0, -1), 100);
        due.eq("far below 0", x.judge(0, LEAST), 100);
        x.tape(0, 1, 2);
        x.item(0, 0, 1);
        x.item(0, 1, -2);
        due.eq("2 and the end", x.judge(0, 0), 102);
        x.tape(0, 1, 0);
        due.eq("a row of none", x.judge(0, 0), 100);
        x.tape(0, -1, 0);
        due.eq("nothing again", x.judge(0, 0), 100);
        x.tape(5, 1, 60);
        x.degree(4);
        due.eq("as many as NUMBERS", x.judge(5, 55), -5);
        due.eq("one too few", x.judge(5, 56), 104);
    }

    private static void image() {
        TwoLetterForms x = Due.form(1, 0, -2);
        due.eq("none", x.undo(), -3);
        x.equal(7);
        x.window(8);
        x.see(1, 2, 3);
        x.see(1, 1, -1);
        x.event(0, 0);
        x.book(0, 5);
        x.book(2, -2);
        due.eq("image", x.image(), 2);
        x.degree(4);
        x.number(4, 9);
        x.equal(5);
        x.window(3);
        x.see(-100, 0, 0);
        x.see(9, 9, 9);
        x.event(1, 2);
        x.event(2, 5);
        x.book(-1, 0);
        x.feed('d');
        x.tape(2, 0, 4);
        x.item(2, 1, 5);
        due.eq("undo", x.undo(), 2);
        due.numbers("undo", x, 1, 0, -2);
        due.eq("M", x.told(1), 10007);
        due.eq("b", x.told(2), 8);
        due.eq("SEEN", x.count(0), 2);
        due.eq("SEEN: a0 - 8 = 3, a0 - 2 = -1", x.fits(0, 0), 0);
        due.eq("EVENTS", x.count(1), 1);
        due.eq("EVENTS: 2x^2 - 2y^2 = 7", x.after(1), 2);
        due.eq("BOOK", x.count(2), 2);
        due.eq("BOOK", x.looked(), 0);
        due.eq("THE TEXT stays", x.count(3), 1);
        due.eq("TAPES stay", x.peek(2, 1), 5);
        x.number(0, 9);
        due.eq("THE IMAGE stays", x.undo(), 2);
        due.numbers("THE IMAGE stays", x, 1, 0, -2);
        // What is changed behind image() or undo() must not change THE IMAGE.
        x.see(5, 5, 5);
        x.book(1, 1);
        x.undo();
        due.eq("SEEN", x.count(0), 2);
        due.eq("BOOK", x.count(2), 2);
        x.degree(3);
        due.eq("another image", x.image(), 3);
        x.degree(2);
        due.eq("undo to it", x.undo(), 3);
        due.numbers("undo to it", x, 0, 0, 0, 0);
    }

    private static void count() {
        TwoLetterForms x = new TwoLetterForms();
        x.see(1, 1, 1);
        x.event(1, 1);
        x.event(1, 1);
        x.book(1, 1);
        x.book(1, 1);
        x.book(1, 1);
        for (int i = 0; i < 4; i++) {
            x.feed('t');
        }
        for (int what = 0; what < 4; what++) {
            due.eq("count " + what, x.count(what), what + 1);
        }
        due.eq("count(4)", x.count(4), -2);
        due.eq("count(-1)", x.count(-1), -2);
        due.eq("count(least)", x.count(LEAST), -2);
    }

    private static void tape() {
        TwoLetterForms x = new TwoLetterForms();
        due.eq("tape", x.tape(6, 0, 1), -1);
        due.eq("tape", x.tape(-1, 9, -1), -1);
        due.eq("sort", x.tape(0, 5, 1), -2);
        due.eq("sort", x.tape(0, -2, 1), -2);
        due.eq("sort ahead of size", x.tape(0, 5, -1), -2);
        due.eq("n", x.tape(0, 0, 61), -2);
        due.eq("n", x.tape(0, 0, MOST), -2);
        due.eq("size", x.tape(0, 0, -1), -14);
        due.eq("size", x.tape(0, 4, LEAST), -14);
        due.eq("nothing yet", x.peek(0, 0), NO);
        for (int sort = 0; sort < 5; sort++) {
            due.eq("sort " + sort, x.tape(sort, sort, 60), 1);
            due.eq("last of " + sort, x.item(sort, 59, 1), 1);
            due.eq("behind the last of " + sort, x.item(sort, 60, 1), -13);
            due.eq("anew " + sort, x.tape(sort, sort, 60), 1);
            due.eq("all 0 " + sort, x.peek(sort, 59), 0);
        }
        x.item(3, 0, 7);
        due.eq("refused", x.tape(3, 3, 61), -2);
        due.eq("refused", x.tape(3, 3, -1), -14);
        due.eq("refused changes nothing", x.peek(3, 0), 7);
        due.eq("a row of none", x.tape(3, 3, 0), 1);
        due.eq("no place", x.peek(3, 0), NO);
        due.eq("no place", x.item(3, 0, 1), -13);
        due.eq("n does not matter", x.tape(3, -1, LEAST), 1);
        due.eq("n does not matter", x.tape(3, -1, 61), 1);
        due.eq("nothing", x.item(3, 0, 1), -11);
        due.eq("nothing already", x.tape(5, -1, 3), 1);
    }

    private static void item() {
        TwoLetterForms x = new TwoLetterForms();
        due.eq("tape", x.item(6, 0, 1), -1);
        due.eq("tape", x.item(-1, 0, 1), -1);
        due.eq("nothing ahead of place", x.item(0, -1, 1), -11);
        long[] told = {0, 1, -1, 127, 128, 255, 256, 32767, 32768, 65536, 1L << 31, (1L << 31) - 1, 1L << 32, Long.MAX_VALUE, NO};
        long[] bytes = {0, 1, -1, 127, -128, -1, 0, -1, 0, 0, 0, -1, 0, -1, 0};
        long[] shorts = {0, 1, -1, 127, 128, 255, 256, 32767, -32768, 0, 0, -1, 0, -1, 0};
        long[] ints = {0, 1, -1, 127, 128, 255, 256, 32767, 32768, 65536, LEAST, MOST, 0, -1, 0};
        for (int sort = 0; sort < 5; sort++) {
            x.tape(sort, sort, told.length);
        }
        for (int i = 0; i < told.length; i++) {
            for (int sort = 0; sort < 5; sort++) {
                due.eq("item " + told[i] + " of " + sort, x.item(sort, i, told[i]), 1);
            }
            due.eq("byte of " + told[i], x.peek(0, i), bytes[i]);
            due.eq("short of " + told[i], x.peek(1, i), shorts[i]);
            due.eq("int of " + told[i], x.peek(2, i), ints[i]);
            due.eq("long of " + told[i], x.peek(3, i), told[i]);
            due.eq("boolean of " + told[i], x.peek(4, i), told[i] == 0 ? 0 : 1);
        }
        due.eq("place", x.item(0, told.length, 1), -13);
        due.eq("place", x.item(0, -1, 1), -13);
        due.eq("place", x.item(0, MOST, 1), -13);
        due.eq("place", x.item(0, LEAST, 1), -13);
    }

    private static void peek() {
        TwoLetterForms x = new TwoLetterForms();
        due.eq("no such tape", x.peek(6, 0), NO);
        due.eq("no such tape", x.peek(-1, 0), NO);
        due.eq("nothing there", x.peek(0, 0), NO);
        x.tape(0, 2, 2);
        x.item(0, 1, -5);
        due.eq("item 0", x.peek(0, 0), 0);
        due.eq("item 1", x.peek(0, 1), -5);
        due.eq("no such place", x.peek(0, 2), NO);
        due.eq("no such place", x.peek(0, -1), NO);
        due.eq("no such place", x.peek(0, LEAST), NO);
    }

    private static TwoLetterForms counted() {
        TwoLetterForms x = new TwoLetterForms();
        x.tape(0, 2, 6);
        x.tape(1, 2, 4);
        for (int i = 0; i < 6; i++) {
            x.item(0, i, i + 1);
        }
        return x;
    }

    private static void shift() {
        TwoLetterForms x = counted();
        due.eq("to another", x.shift(0, 1, 1, 2, 2), 2);
        due.row("to another", x, 1, 0, 0, 2, 3);
        due.row("from it", x, 0, 1, 2, 3, 4, 5, 6);
        due.eq("ahead", x.shift(0, 0, 0, 1, 4), 4);
        due.row("ahead", x, 0, 1, 1, 2, 3, 4, 6);
        due.eq("back", x.shift(0, 2, 0, 0, 4), 4);
        due.row("back", x, 0, 2, 3, 4, 6, 4, 6);
        due.eq("none", x.shift(0, 6, 1, 4, 0), 0);
        due.eq("none", x.shift(0, 0, 1, 0, 0), 0);
        due.eq("all", x.shift(0, 0, 0, 0, 6), 6);
        due.row("all", x, 0, 2, 3, 4, 6, 4, 6);
        due.row("other", x, 1, 0, 0, 2, 3);
    }

    private static void shiftRefused() {
        TwoLetterForms x = counted();
        x.tape(2, 3, 6);
        due.eq("tape", x.shift(6, 0, 0, 0, 1), -1);
        due.eq("other", x.shift(0, 0, 6, 0, 1), -1);
        due.eq("tape", x.shift(-1, 0, 3, 0, 1), -1);
        due.eq("none ahead of nothing", x.shift(3, 0, -1, 0, 1), -1);
        due.eq("nothing", x.shift(3, 0, 0, 0, 1), -11);
        due.eq("nothing", x.shift(0, 0, 3, 0, 1), -11);
        due.eq("nothing ahead of place", x.shift(3, -1, 4, -1, -1), -11);
        due.eq("cast", x.shift(0, 0, 2, 0, 1), -12);
        due.eq("cast ahead of place", x.shift(0, -1, 2, 0, -1), -12);
        due.eq("i", x.shift(0, -1, 1, 0, 1), -13);
        due.eq("j", x.shift(0, 0, 1, -1, 1), -13);
        due.eq("n", x.shift(0, 0, 1, 0, -1), -13);
        due.eq("end of the one", x.shift(0, 5, 1, 0, 2), -13);
        due.eq("end of the other", x.shift(0, 0, 1, 3, 2), -13);
        due.eq("i beyond, none", x.shift(0, 7, 1, 0, 0), -13);
        due.eq("j beyond, none", x.shift(0, 0, 1, 5, 0), -13);
        due.eq("most", x.shift(0, MOST, 1, 0, MOST), -13);
        due.eq("most", x.shift(0, 1, 1, MOST, MOST), -13);
        due.eq("least", x.shift(0, 0, 1, 0, LEAST), -13);
        due.row("refused changes nothing", x, 0, 1, 2, 3, 4, 5, 6);
        due.row("refused changes nothing", x, 1, 0, 0, 0, 0);
    }
}
