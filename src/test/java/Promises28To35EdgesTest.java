/** Promises 28 to 35: a test for each sentence, and for each case at its edge. */
public final class Promises28To35EdgesTest {
    private static final int LEAST = Edges.LEAST, MOST = Edges.MOST;
    private static final long NO = Edges.NO;
    private static final int BYTES = 0, SHORTS = 1, INTS = 2, LONGS = 3, BOOLEANS = 4;

    public static void main(String[] args) {
        Edges.run(Promises28To35EdgesTest.class);
    }

    // ---- promise 28: judge

    @Says(in = "Promise 28", words = "JUDGED from place i of a TAPE on.")
    static void p28FromTheFirstPlaceToTheLast(Due due) {
        for (int d = 2; d <= 4; d++) {
            TwoLetterForms x = new TwoLetterForms();
            x.degree(d);
            x.tape(0, SHORTS, 60);
            for (int i = 0; i <= d; i++) {
                x.number(i, i + 1);
                x.item(0, i, i + 1);
                x.item(0, 59 - d + i, i + 1);
            }
            due.eq("the first place", x.judge(0, 0), -5);
            due.eq("the last place from which all are told", x.judge(0, 59 - d), -5);
            due.eq("one place too late", x.judge(0, 60 - d), 0);
            x.item(0, 59, 1);
            due.eq("the last place", x.judge(0, 59), 101);
            due.eq("behind the last place", x.judge(0, 60), 100);
        }
    }

    @Says(in = "Promise 28", words = "NONE: tape;")
    static void p28BelowTheFirstAndBehindTheLastTape(Due due) {
        TwoLetterForms x = new TwoLetterForms();
        for (int tape : new int[] {-1, 6, LEAST, MOST}) {
            due.eq("judge(" + tape + ", 0)", x.judge(tape, 0), -1);
        }
        due.eq("the first", x.judge(0, 0), 100);
        due.eq("the last", x.judge(5, 0), 100);
    }

    @Says(in = "Promise 28", words = "CAST: it is no row of shorts.")
    static void p28EachOtherSortIsRefused(Due due) {
        TwoLetterForms x = new TwoLetterForms();
        for (int sort : new int[] {BYTES, INTS, LONGS, BOOLEANS}) {
            x.tape(sort, sort, 4);
            due.eq("sort " + sort, x.judge(sort, 0), -12);
            due.eq("sort " + sort + " behind its end", x.judge(sort, 4), -12);
            x.tape(sort, sort, 0);
            due.eq("a row of none of sort " + sort, x.judge(sort, 0), -12);
            x.tape(sort, SHORTS, 4);
            due.eq("shorts", x.judge(sort, 0), -5);
            x.tape(sort, -1, 0);
            due.eq("nothing", x.judge(sort, 0), 100);
        }
    }

    // ---- promises 29, 30: image, undo

    @Says(in = "Promise 29", words = "THE IMAGE is taken: DEGREE.")
    static void p29TheLeastAndTheGreatestDegree(Due due) {
        TwoLetterForms x = new TwoLetterForms();
        due.eq("at first", x.image(), 3);
        x.degree(2);
        due.eq("the least", x.image(), 2);
        x.degree(4);
        due.eq("the greatest", x.image(), 4);
    }

    @Says(in = "Promise 29", words = "THE IMAGE is taken: DEGREE.")
    static void p29TheLastOneTakenStands(Due due) {
        TwoLetterForms x = Due.equation(5, 5, 1, 2, 3);
        x.image();
        x.degree(4);
        x.number(4, 9);
        x.equal(-9999);
        x.window(40);
        due.eq("another one", x.image(), 4);
        x.degree(3);
        x.equal(0);
        x.window(1);
        due.eq("undo()", x.undo(), 4);
        due.numbers("the last one", x, 0, 0, 0, 0, 9);
        due.eq("M", x.told(1), 1);
        due.eq("b", x.told(2), 40);
    }

    @Says(in = "Promise 30", words = "All is as THE IMAGE: DEGREE.")
    static void p30BackToTheLeastAndTheGreatest(Due due) {
        TwoLetterForms x = Due.equation(-9999, 1, -99, 0, 99);
        x.image();
        x.degree(4);
        x.number(4, 99);
        x.equal(9999);
        x.window(40);
        due.eq("from degree 4 to 2", x.undo(), 2);
        due.numbers("from degree 4 to 2", x, -99, 0, 99);
        due.eq("a3 isn't there", x.of(3), -1);
        due.eq("M", x.told(1), 1);
        due.eq("b", x.told(2), 1);
        x.degree(4);
        x.number(4, 99);
        x.image();
        x.degree(2);
        due.eq("from degree 2 to 4", x.undo(), 4);
        due.numbers("from degree 2 to 4", x, 0, 0, 0, 0, 99);
        due.eq("nothing has changed since", x.undo(), 4);
        due.numbers("nothing has changed since", x, 0, 0, 0, 0, 99);
    }

    @Says(in = "Promise 30", words = "All is as THE IMAGE: DEGREE.")
    static void p30WhatWasFoundIsThatOfTheImage(Due due) {
        TwoLetterForms x = Due.equation(25, 10, 1, 0, 1);
        due.eq("ANSWERS", x.told(3), 12);
        due.eq("FAMILIES", x.told(5), 2);
        x.image();
        x.equal(3);
        due.eq("ANSWERS", x.told(3), 0);
        x.undo();
        due.eq("ANSWERS", x.told(3), 12);
        due.eq("FAMILIES", x.told(5), 2);
        due.eq("the last ANSWER", x.answer(11, 0), 105);
    }

    @Says(in = "Promise 30", words = "STATE: there is none.")
    static void p30WithoutAnImage(Due due) {
        TwoLetterForms x = Due.form(1, 2, 3);
        due.eq("undo()", x.undo(), -3);
        due.numbers("refused", x, 1, 2, 3);
        due.eq("undo()", x.undo(), -3);
        x.image();
        due.eq("undo()", x.undo(), 2);
    }

    // ---- promise 31: count

    @Says(in = "Promise 31", words = "How many: 0 SEEN, 1 EVENTS, 2 of the BOOK, 3 bytes of THE TEXT.")
    static void p31FromNoneToFull(Due due) {
        TwoLetterForms x = new TwoLetterForms();
        int[] most = {4, 8, 8, 100};
        for (int what = 0; what <= 3; what++) {
            due.eq("none: count(" + what + ")", x.count(what), 0);
        }
        x.see(0, 0, 0);
        x.event(0, 0);
        x.event(0, 0);
        x.book(0, 0);
        x.book(0, 0);
        x.book(0, 0);
        Due.feed(x, "dddd");
        for (int what = 0; what <= 3; what++) {
            due.eq("each its own: count(" + what + ")", x.count(what), what + 1);
        }
        for (int k = 0; k < 101; k++) {
            x.see(0, 0, 0);
            x.event(0, 0);
            x.book(0, 0);
            x.feed('d');
        }
        for (int what = 0; what <= 3; what++) {
            due.eq("full: count(" + what + ")", x.count(what), most[what]);
        }
    }

    @Says(in = "Promise 31", words = "BAD.")
    static void p31BelowTheFirstAndBehindTheLast(Due due) {
        TwoLetterForms x = new TwoLetterForms();
        for (int what : new int[] {-1, 4, LEAST, MOST}) {
            due.eq("count(" + what + ")", x.count(what), -2);
        }
    }

    // ---- promise 32: tape

    @Says(in = "Promise 32", words = "A TAPE becomes a row of n (0 .. 60) of a sort, all 0,")
    static void p32TheEmptyAndTheLongestRow(Due due) {
        TwoLetterForms x = new TwoLetterForms();
        for (int sort = BYTES; sort <= BOOLEANS; sort++) {
            due.eq("the longest of sort " + sort, x.tape(sort, sort, 60), 1);
            due.eq("its last item", x.peek(sort, 59), 0);
            due.eq("behind its last item", x.peek(sort, 60), NO);
            due.eq("behind its last item", x.item(sort, 60, 1), -13);
            due.eq("the shortest of sort " + sort, x.tape(sort, sort, 0), 1);
            due.eq("it has no item", x.peek(sort, 0), NO);
            due.eq("it has no item, but isn't nothing", x.item(sort, 0, 1), -13);
            due.eq("one item", x.tape(sort, sort, 1), 1);
            due.eq("the one item", x.peek(sort, 0), 0);
            due.eq("behind it", x.peek(sort, 1), NO);
        }
    }

    @Says(in = "Promise 32", words = "A TAPE becomes a row of n (0 .. 60) of a sort, all 0,")
    static void p32AllItemsAre0Again(Due due) {
        TwoLetterForms x = new TwoLetterForms();
        for (int sort = BYTES; sort <= BOOLEANS; sort++) {
            Due.fill(x, 0, sort, 1, 1, 1, 1);
            due.eq("the same length", x.tape(0, sort, 4), 1);
            due.row("the same length", x, 0, 0, 0, 0, 0);
            Due.fill(x, 0, sort, 1, 1, 1, 1);
            x.tape(0, sort, 2);
            due.eq("shorter, then longer", x.tape(0, sort, 4), 1);
            due.row("shorter, then longer", x, 0, 0, 0, 0, 0);
            Due.fill(x, 0, sort, 1, 1);
            x.tape(0, -1, 0);
            x.tape(0, sort, 2);
            due.row("nothing between", x, 0, 0, 0);
        }
        Due.fill(x, 1, LONGS, 5);
        x.tape(0, BYTES, 3);
        due.row("another TAPE stays", x, 1, 5);
    }

    @Says(in = "Promise 32", words = "or holds nothing (sort -1: n does not matter): 1.")
    static void p32SortMinus1WithAnyN(Due due) {
        TwoLetterForms x = new TwoLetterForms();
        due.eq("nothing already", x.tape(0, -1, 0), 1);
        for (int n : new int[] {0, 1, 60, 61, -1, LEAST, MOST}) {
            Due.fill(x, 0, LONGS, 7, 8);
            due.eq("tape(0, -1, " + n + ")", x.tape(0, -1, n), 1);
            due.eq("nothing", x.item(0, 0, 1), -11);
            due.eq("nothing", x.peek(0, 0), NO);
        }
    }

    @Says(in = "Promise 32", words = "NONE: tape;")
    static void p32BelowTheFirstAndBehindTheLastTape(Due due) {
        TwoLetterForms x = new TwoLetterForms();
        for (int tape : new int[] {-1, 6, LEAST, MOST}) {
            due.eq("tape(" + tape + ", 0, 1)", x.tape(tape, 0, 1), -1);
            due.eq("tape(" + tape + ", -1, 0)", x.tape(tape, -1, 0), -1);
        }
        for (int tape = 0; tape <= 5; tape++) {
            due.eq("refused: nothing in " + tape, x.item(tape, 0, 1), -11);
        }
    }

    @Says(in = "Promise 32", words = "BAD: sort, n above 60;")
    static void p32SortsBelowAndAboveAndARowTooLong(Due due) {
        TwoLetterForms x = new TwoLetterForms();
        Due.fill(x, 0, LONGS, 7, 8);
        for (int sort : new int[] {-2, 5, LEAST, MOST}) {
            due.eq("tape(0, " + sort + ", 1)", x.tape(0, sort, 1), -2);
        }
        for (int n : new int[] {61, 100, MOST}) {
            due.eq("tape(0, 0, " + n + ")", x.tape(0, 0, n), -2);
            due.eq("tape(0, 4, " + n + ")", x.tape(0, 4, n), -2);
        }
        due.row("refused", x, 0, 7, 8);
    }

    @Says(in = "Promise 32", words = "SIZE.")
    static void p32ASizeBelow0(Due due) {
        TwoLetterForms x = new TwoLetterForms();
        Due.fill(x, 0, LONGS, 7, 8);
        for (int n : new int[] {-1, -60, LEAST}) {
            for (int sort = BYTES; sort <= BOOLEANS; sort++) {
                due.eq("tape(0, " + sort + ", " + n + ")", x.tape(0, sort, n), -14);
            }
        }
        due.row("refused", x, 0, 7, 8);
    }

    // ---- promise 33: item

    private static void becomes(Due due, int sort, long v, long item) {
        TwoLetterForms x = new TwoLetterForms();
        x.tape(0, sort, 2);
        due.eq("item of sort " + sort + " by " + v, x.item(0, 0, v), 1);
        due.eq("item of sort " + sort + " by " + v, x.peek(0, 0), item);
        due.eq("the item beside it", x.peek(0, 1), 0);
    }

    @Says(in = "Promise 33", words = "Item i of a TAPE becomes v (its lowest bits, as many as an item has;")
    static void p33BytesWrapAround(Due due) {
        long[] vs = {127, 128, 255, 256, 257, -128, -129, -256, 1L << 32, Long.MAX_VALUE, Long.MIN_VALUE};
        long[] items = {127, -128, -1, 0, 1, -128, 127, 0, 0, -1, 0};
        for (int i = 0; i < vs.length; i++) {
            becomes(due, BYTES, vs[i], items[i]);
        }
    }

    @Says(in = "Promise 33", words = "Item i of a TAPE becomes v (its lowest bits, as many as an item has;")
    static void p33ShortsWrapAround(Due due) {
        long[] vs = {32767, 32768, 65535, 65536, 65537, -32768, -32769, -65536, 1L << 32, Long.MAX_VALUE, Long.MIN_VALUE};
        long[] items = {32767, -32768, -1, 0, 1, -32768, 32767, 0, 0, -1, 0};
        for (int i = 0; i < vs.length; i++) {
            becomes(due, SHORTS, vs[i], items[i]);
        }
    }

    @Says(in = "Promise 33", words = "Item i of a TAPE becomes v (its lowest bits, as many as an item has;")
    static void p33IntsWrapAroundAndLongsDont(Due due) {
        long[] vs = {MOST, MOST + 1L, (1L << 32) - 1, 1L << 32, (1L << 32) + 1, LEAST, LEAST - 1L, -(1L << 32), Long.MAX_VALUE, Long.MIN_VALUE};
        long[] items = {MOST, LEAST, -1, 0, 1, LEAST, MOST, 0, -1, 0};
        for (int i = 0; i < vs.length; i++) {
            becomes(due, INTS, vs[i], items[i]);
            becomes(due, LONGS, vs[i], vs[i]);
        }
    }

    @Says(in = "Promise 33", words = "booleans: whether v is not 0): 1.")
    static void p33BooleansAre1IfAnyBitIs(Due due) {
        for (long v : new long[] {1, -1, 2, 256, 1L << 32, Long.MAX_VALUE, Long.MIN_VALUE}) {
            becomes(due, BOOLEANS, v, 1);
        }
        becomes(due, BOOLEANS, 0, 0);
        TwoLetterForms x = new TwoLetterForms();
        Due.fill(x, 0, BOOLEANS, 1);
        due.eq("back to 0", x.item(0, 0, 0), 1);
        due.eq("back to 0", x.peek(0, 0), 0);
    }

    @Says(in = "Promise 33", words = "Item i of a TAPE becomes v (its lowest bits, as many as an item has;")
    static void p33TheFirstAndTheLastItem(Due due) {
        TwoLetterForms x = new TwoLetterForms();
        x.tape(0, LONGS, 60);
        x.tape(5, LONGS, 1);
        due.eq("the first", x.item(0, 0, 5), 1);
        due.eq("the last", x.item(0, 59, 6), 1);
        due.eq("the only one", x.item(5, 0, 7), 1);
        due.eq("the first", x.peek(0, 0), 5);
        due.eq("the last", x.peek(0, 59), 6);
        due.eq("the only one", x.peek(5, 0), 7);
        due.eq("no other", x.peek(0, 1), 0);
        due.eq("no other", x.peek(0, 58), 0);
    }

    @Says(in = "Promise 33", words = "NONE;")
    static void p33BelowTheFirstAndBehindTheLastTape(Due due) {
        TwoLetterForms x = new TwoLetterForms();
        x.tape(0, LONGS, 1);
        x.tape(5, LONGS, 1);
        for (int tape : new int[] {-1, 6, LEAST, MOST}) {
            due.eq("item(" + tape + ", 0, 1)", x.item(tape, 0, 1), -1);
        }
        due.eq("refused", x.peek(0, 0), 0);
        due.eq("refused", x.peek(5, 0), 0);
    }

    @Says(in = "Promise 33", words = "NOTHING;")
    static void p33IntoNothing(Due due) {
        TwoLetterForms x = new TwoLetterForms();
        for (int i : new int[] {0, -1, 60, LEAST, MOST}) {
            due.eq("item(0, " + i + ", 1)", x.item(0, i, 1), -11);
        }
        due.eq("refused", x.peek(0, 0), NO);
    }

    @Says(in = "Promise 33", words = "PLACE.")
    static void p33BelowTheFirstAndBehindTheLastPlace(Due due) {
        TwoLetterForms x = new TwoLetterForms();
        Due.fill(x, 0, INTS, 7, 8);
        for (int i : new int[] {-1, 2, 59, 60, LEAST, MOST}) {
            due.eq("item(0, " + i + ", 1)", x.item(0, i, 1), -13);
        }
        due.row("refused", x, 0, 7, 8);
        x.tape(0, INTS, 0);
        due.eq("a row of none", x.item(0, 0, 1), -13);
        x.tape(0, INTS, 60);
        due.eq("the longest row", x.item(0, 60, 1), -13);
    }

    // ---- promise 34: peek

    @Says(in = "Promise 34", words = "Item i of a TAPE.")
    static void p34TheFirstAndTheLast(Due due) {
        TwoLetterForms x = new TwoLetterForms();
        x.tape(0, LONGS, 60);
        x.item(0, 0, Long.MAX_VALUE);
        x.item(0, 59, Long.MIN_VALUE + 1);
        due.eq("the first", x.peek(0, 0), Long.MAX_VALUE);
        due.eq("the last", x.peek(0, 59), Long.MIN_VALUE + 1);
        x.tape(5, BYTES, 1);
        x.item(5, 0, -128);
        due.eq("the only one of the last TAPE", x.peek(5, 0), -128);
    }

    @Says(in = "Promise 34", words = "NO: no such TAPE, nothing there, no such place.")
    static void p34BelowTheFirstAndBehindTheLast(Due due) {
        TwoLetterForms x = new TwoLetterForms();
        Due.fill(x, 0, LONGS, 7, 8);
        for (int tape : new int[] {-1, 6, LEAST, MOST}) {
            due.eq("no TAPE " + tape, x.peek(tape, 0), NO);
        }
        due.eq("nothing there", x.peek(1, 0), NO);
        for (int i : new int[] {-1, 2, 60, LEAST, MOST}) {
            due.eq("no place " + i, x.peek(0, i), NO);
            due.eq("nothing there, either", x.peek(1, i), NO);
        }
        x.tape(0, LONGS, 0);
        due.eq("a row of none", x.peek(0, 0), NO);
        x.tape(0, -1, 0);
        due.eq("nothing any more", x.peek(0, 0), NO);
    }

    // ---- promise 35: shift

    @Says(in = "Promise 35", words = "n items of a TAPE from i on come to another one (or the same) from j on, as they all were before: n.")
    static void p35FromNoneToAll(Due due) {
        TwoLetterForms x = new TwoLetterForms();
        Due.fill(x, 0, LONGS, 1, 2, 3, 4);
        Due.fill(x, 5, LONGS, 9, 9, 9, 9);
        due.eq("none", x.shift(0, 0, 5, 0, 0), 0);
        due.row("none", x, 5, 9, 9, 9, 9);
        due.eq("one, from the last to the first", x.shift(0, 3, 5, 0, 1), 1);
        due.row("one", x, 5, 4, 9, 9, 9);
        due.eq("one, from the first to the last", x.shift(0, 0, 5, 3, 1), 1);
        due.row("one", x, 5, 4, 9, 9, 1);
        due.eq("all", x.shift(0, 0, 5, 0, 4), 4);
        due.row("all", x, 5, 1, 2, 3, 4);
        due.row("where they came from", x, 0, 1, 2, 3, 4);
        x.tape(0, LONGS, 60);
        x.tape(5, LONGS, 60);
        x.item(0, 59, 7);
        due.eq("the most", x.shift(0, 0, 5, 0, 60), 60);
        due.eq("the most", x.peek(5, 59), 7);
    }

    @Says(in = "Promise 35", words = "n items of a TAPE from i on come to another one (or the same) from j on, as they all were before: n.")
    static void p35WithinOneRowAsTheyWereBefore(Due due) {
        TwoLetterForms x = new TwoLetterForms();
        Due.fill(x, 0, INTS, 1, 2, 3, 4, 5);
        due.eq("one place on", x.shift(0, 0, 0, 1, 4), 4);
        due.row("one place on", x, 0, 1, 1, 2, 3, 4);
        Due.fill(x, 0, INTS, 1, 2, 3, 4, 5);
        due.eq("one place back", x.shift(0, 1, 0, 0, 4), 4);
        due.row("one place back", x, 0, 2, 3, 4, 5, 5);
        due.eq("where they are", x.shift(0, 0, 0, 0, 5), 5);
        due.row("where they are", x, 0, 2, 3, 4, 5, 5);
    }

    @Says(in = "Promise 35", words = "n items of a TAPE from i on come to another one (or the same) from j on, as they all were before: n.")
    static void p35EachSortKeepsItsItems(Due due) {
        TwoLetterForms x = new TwoLetterForms();
        long[] items = {-128, -32768, LEAST, Long.MIN_VALUE, 1};
        for (int sort = BYTES; sort <= BOOLEANS; sort++) {
            Due.fill(x, 0, sort, items[sort], 0);
            Due.fill(x, 1, sort, 0, 1);
            due.eq("sort " + sort, x.shift(0, 0, 1, 0, 2), 2);
            due.row("sort " + sort, x, 1, items[sort], 0);
        }
    }

    @Says(in = "Promise 35", words = "NONE: tapes;")
    static void p35BelowTheFirstAndBehindTheLastTape(Due due) {
        TwoLetterForms x = new TwoLetterForms();
        Due.fill(x, 0, LONGS, 1, 2);
        Due.fill(x, 5, LONGS, 3, 4);
        for (int tape : new int[] {-1, 6, LEAST, MOST}) {
            due.eq("from " + tape, x.shift(tape, 0, 0, 0, 1), -1);
            due.eq("to " + tape, x.shift(0, 0, tape, 0, 1), -1);
            due.eq("from and to " + tape, x.shift(tape, 0, tape, 0, 0), -1);
        }
        due.row("refused", x, 0, 1, 2);
        due.row("refused", x, 5, 3, 4);
    }

    @Says(in = "Promise 35", words = "NOTHING;")
    static void p35FromNothingOrToNothing(Due due) {
        TwoLetterForms x = new TwoLetterForms();
        Due.fill(x, 0, LONGS, 1, 2);
        due.eq("from nothing", x.shift(1, 0, 0, 0, 1), -11);
        due.eq("to nothing", x.shift(0, 0, 1, 0, 1), -11);
        due.eq("from nothing to nothing", x.shift(1, 0, 2, 0, 1), -11);
        due.eq("none of nothing", x.shift(1, 0, 1, 0, 0), -11);
        due.eq("none to nothing", x.shift(0, 0, 1, 0, 0), -11);
        due.row("refused", x, 0, 1, 2);
    }

    @Says(in = "Promise 35", words = "CAST: of unlike sorts;")
    static void p35EachTwoUnlikeSorts(Due due) {
        TwoLetterForms x = new TwoLetterForms();
        for (int sort = BYTES; sort <= BOOLEANS; sort++) {
            Due.fill(x, sort, sort, 1, 0);
        }
        for (int sort = BYTES; sort <= BOOLEANS; sort++) {
            for (int other = BYTES; other <= BOOLEANS; other++) {
                int want = sort == other ? 1 : -12;
                due.eq("from sort " + sort + " to " + other, x.shift(sort, 0, other, 1, 1), want);
                if (sort != other) due.eq("none from sort " + sort + " to " + other, x.shift(sort, 0, other, 0, 0), -12);
            }
            due.row("of like sorts", x, sort, 1, 1);
            x.item(sort, 1, 0);
        }
        x.tape(0, BYTES, 0);
        x.tape(1, SHORTS, 0);
        due.eq("none from a row of none to another", x.shift(0, 0, 1, 0, 0), -12);
    }

    @Says(in = "Promise 35", words = "PLACE: n, i or j is below 0, or beyond either's end.")
    static void p35BelowThePlaces(Due due) {
        TwoLetterForms x = new TwoLetterForms();
        Due.fill(x, 0, LONGS, 1, 2, 3);
        Due.fill(x, 1, LONGS, 4, 5);
        for (int n : new int[] {-1, -2, LEAST}) {
            due.eq("n " + n, x.shift(0, 0, 1, 0, n), -13);
            due.eq("i " + n, x.shift(0, n, 1, 0, 1), -13);
            due.eq("j " + n, x.shift(0, 0, 1, n, 1), -13);
            due.eq("none, i " + n, x.shift(0, n, 1, 0, 0), -13);
            due.eq("none, j " + n, x.shift(0, 0, 1, n, 0), -13);
            due.eq("n, i and j " + n, x.shift(0, n, 1, n, n), -13);
        }
        due.row("refused", x, 0, 1, 2, 3);
        due.row("refused", x, 1, 4, 5);
    }

    @Says(in = "Promise 35", words = "PLACE: n, i or j is below 0, or beyond either's end.")
    static void p35BeyondEithersEnd(Due due) {
        TwoLetterForms x = new TwoLetterForms();
        Due.fill(x, 0, LONGS, 1, 2, 3);
        Due.fill(x, 1, LONGS, 4, 5);
        due.eq("one beyond the end of the other", x.shift(0, 0, 1, 0, 3), -13);
        due.eq("one beyond the end of the other", x.shift(0, 0, 1, 1, 2), -13);
        due.eq("one beyond the end of the one", x.shift(0, 2, 1, 0, 2), -13);
        due.eq("from its end", x.shift(0, 3, 1, 0, 1), -13);
        due.eq("to its end", x.shift(0, 0, 1, 2, 1), -13);
        due.eq("far beyond", x.shift(0, MOST, 1, 0, 1), -13);
        due.eq("far beyond", x.shift(0, 0, 1, MOST, 1), -13);
        due.eq("far too many", x.shift(0, 0, 1, 0, MOST), -13);
        due.eq("sums that would wrap around", x.shift(0, MOST, 1, MOST, MOST), -13);
        due.eq("sums that would wrap around", x.shift(0, 1, 1, 1, MOST), -13);
        due.row("refused", x, 0, 1, 2, 3);
        due.row("refused", x, 1, 4, 5);
        due.eq("to the very end", x.shift(0, 1, 1, 0, 2), 2);
        due.row("to the very end", x, 1, 2, 3);
    }

    @Says(in = "Promise 35", words = "PLACE: n, i or j is below 0, or beyond either's end.")
    static void p35NoneAtTheEndAndBeyondIt(Due due) {
        TwoLetterForms x = new TwoLetterForms();
        Due.fill(x, 0, LONGS, 1, 2, 3);
        Due.fill(x, 1, LONGS, 4, 5);
        x.tape(2, LONGS, 0);
        due.eq("none from the end to the end", x.shift(0, 3, 1, 2, 0), 0);
        due.eq("none from beyond the end", x.shift(0, 4, 1, 0, 0), -13);
        due.eq("none to beyond the end", x.shift(0, 0, 1, 3, 0), -13);
        due.eq("none of a row of none", x.shift(2, 0, 2, 0, 0), 0);
        due.eq("one of a row of none", x.shift(2, 0, 0, 0, 1), -13);
        due.eq("none of a row of none, beyond it", x.shift(2, 1, 0, 0, 0), -13);
        due.row("none", x, 0, 1, 2, 3);
        due.row("none", x, 1, 4, 5);
    }
}
