/** Counts the answers of a test and tells those that aren't as due. */
final class Due {
    private final String test;
    private int right = 0;
    private int wrong = 0;

    Due(String test) {
        this.test = test;
    }

    void eq(String call, long got, long want) {
        if (got == want) {
            right++;
            return;
        }
        wrong++;
        if (wrong <= 40) System.out.println(test + ": " + call + " answered " + got + ", due is " + want);
    }

    void yes(String what, boolean stands) {
        eq(what, stands ? 1 : 0, 1);
    }

    void end() {
        System.out.println(test + ": " + right + " as due, " + wrong + " not");
        if (wrong != 0 || right == 0) System.exit(1);
    }

    /** A new object with these NUMBERS, DEGREE one less than there are. */
    static TwoLetterForms form(int... numbers) {
        TwoLetterForms x = new TwoLetterForms();
        x.degree(numbers.length - 1);
        for (int i = 0; i < numbers.length; i++) {
            x.number(i, numbers[i]);
        }
        return x;
    }

    void numbers(String what, TwoLetterForms x, int... numbers) {
        eq(what + ": DEGREE", x.told(0), numbers.length - 1);
        for (int i = 0; i < numbers.length; i++) {
            eq(what + ": of(" + i + ")", x.of(i), numbers[i] + 100);
        }
    }

    static int read(TwoLetterForms x, String text) {
        for (int i = 0; i < text.length(); i++) {
            x.feed(text.charAt(i));
        }
        return x.read();
    }
}
