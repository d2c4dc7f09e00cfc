import java.util.List;

/** Counts the answers of a test and tells those that aren't as due. */
final class Due {
    private static final int MOST_TOLD = 40;

    private final String owner;
    private String test;
    private int rightOfTest = 0;
    private int tests = 0;
    private int right = 0;
    private int wrong = 0;

    Due(String owner) {
        this.owner = owner;
        this.test = owner;
    }

    /** A test that holds one sentence; it must ask something. */
    void begin(String name) {
        endOfTest();
        test = owner + "." + name;
        tests++;
        rightOfTest = 0;
    }

    private void endOfTest() {
        if (tests > 0 && rightOfTest == 0) fault(test + ": nothing was as due");
    }

    private void fault(String words) {
        wrong++;
        if (wrong <= MOST_TOLD) System.out.println(words);
    }

    void eq(String call, long got, long want) {
        if (got == want) {
            right++;
            rightOfTest++;
            return;
        }
        fault(test + ": " + call + " answered " + got + ", due is " + want);
    }

    void yes(String what, boolean stands) {
        eq(what, stands ? 1 : 0, 1);
    }

    /** Two lists of what was asked and answered, told by the first place where they differ. */
    void same(String what, List<String> got, List<String> want) {
        for (int i = 0; i < Math.max(got.size(), want.size()); i++) {
            String one = i < got.size() ? got.get(i) : "nothing";
            String other = i < want.size() ? want.get(i) : "nothing";
            if (one.equals(other)) continue;
            fault(test + ": " + what + ": " + one + ", due is " + other);
            return;
        }
        yes(what, !want.isEmpty());
    }

    void end() {
        endOfTest();
        String told = tests > 0 ? tests + " tests, " : "";
        System.out.println(owner + ": " + told + right + " as due, " + wrong + " not");
        if (wrong != 0 || right == 0) System.exit(1);
    }

    /** A new object with these NUMBERS, DEGREE one less than there are. */
    static TwoLetterForms form(int... numbers) {
        TwoLetterForms x = new TwoLetterForms();
        x.degree(numbers.length - 1);
        for (int i = 0; i < numbers.length; i++) {
            x.number(i, numbers[i]);
        }
        return x;
    }

    /** The same, equal to m in the window b. */
    static TwoLetterForms equation(int m, int b, int... numbers) {
        TwoLetterForms x = form(numbers);
        x.equal(m);
        x.window(b);
        return x;
    }

    void numbers(String what, TwoLetterForms x, int... numbers) {
        eq(what + ": DEGREE", x.told(0), numbers.length - 1);
        for (int i = 0; i < numbers.length; i++) {
            eq(what + ": of(" + i + ")", x.of(i), numbers[i] + 100);
        }
    }

    /** PARTS, and that there are no more. */
    void parts(String what, TwoLetterForms x, int... parts) {
        eq(what + ": PARTS", x.told(6), parts.length);
        for (int k = 0; k < parts.length; k++) {
            eq(what + ": part(" + k + ")", x.part(k), parts[k]);
        }
        eq(what + ": part(" + parts.length + ")", x.part(parts.length), -5);
    }

    /** A TAPE of a sort, with these items. */
    static void fill(TwoLetterForms x, int tape, int sort, long... items) {
        x.tape(tape, sort, items.length);
        for (int i = 0; i < items.length; i++) {
            x.item(tape, i, items[i]);
        }
    }

    /** Items of a TAPE, and that there are no more. */
    void row(String what, TwoLetterForms x, int tape, long... items) {
        for (int i = 0; i < items.length; i++) {
            eq(what + ": peek(" + tape + ", " + i + ")", x.peek(tape, i), items[i]);
        }
        eq(what + ": peek(" + tape + ", " + items.length + ")", x.peek(tape, items.length), TwoLetterForms.NO);
    }

    static void feed(TwoLetterForms x, String text) {
        for (int i = 0; i < text.length(); i++) {
            x.feed(text.charAt(i));
        }
    }

    static int read(TwoLetterForms x, String text) {
        feed(x, text);
        return x.read();
    }
}
