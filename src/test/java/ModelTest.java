import java.util.Random;

/** Promises 1 to 35: runs of 512 calls by a told seed, each answer held against the Model's. */
public final class ModelTest {
    private static final Due due = new Due("ModelTest");
    private static final int RUNS = 240, CALLS = 512;
    private static final int[] ODD = {Integer.MIN_VALUE, Integer.MAX_VALUE, -101, -100, -99, -11, -10, -2, -1, 0, 1, 2, 3, 4, 5, 6, 7, 8, 10, 41, 61, 99, 100, 128, 10000};
    private static final String SIGNS = "daatw==;;;;--0123456789";

    public static void main(String[] args) {
        for (int seed = 0; seed < RUNS; seed++) {
            new ModelTest(seed).run();
        }
        due.end();
    }

    private final Random random;
    private final int seed;
    private final TwoLetterForms x = new TwoLetterForms();
    private final Model model = new Model();
    private int call = 0;

    private ModelTest(int seed) {
        this.seed = seed;
        this.random = new Random(seed);
    }

    /** Mostly from least to most, at times beyond. */
    private int any(int least, int most) {
        if (random.nextInt(25) == 0) return ODD[random.nextInt(ODD.length)];
        if (random.nextInt(25) == 0) return random.nextBoolean() ? least - 1 : most + 1;
        return least + random.nextInt(most - least + 1);
    }

    private int small() {
        return random.nextInt(4) == 0 ? any(-99, 99) : any(-3, 3);
    }

    private void run() {
        while (call < CALLS) {
            if (random.nextInt(3) == 0) change(random.nextInt(16));
            else if (random.nextInt(3) == 0) handle(random.nextInt(6));
            else ask(random.nextInt(20));
        }
    }

    private void eq(String name, long got, long want) {
        call++;
        due.eq("seed " + seed + " call " + call + " " + name, got, want);
    }

    private void change(int which) {
        switch (which) {
            case 0: int d = any(2, 4); if (random.nextInt(3) == 0) eq("degree " + d, x.degree(d), model.degree(d)); break;
            case 1: case 2: case 3: case 4: int i = any(0, 4), a = small(); eq("number " + i + " " + a, x.number(i, a), model.number(i, a)); break;
            case 5: case 6: int m = random.nextInt(6) == 0 ? any(-9999, 9999) : any(-30, 30); eq("equal " + m, x.equal(m), model.equal(m)); break;
            case 7: int b = random.nextInt(3) == 0 ? any(1, 40) : any(1, 12); eq("window " + b, x.window(b), model.window(b)); break;
            case 8: int move = any(0, 4); eq("move " + move, x.move(move), model.move(move)); break;
            case 9: turn(); break;
            case 10: setUp(); break;
            case 11: int sx = any(-3, 3), sy = any(-3, 3), v = random.nextBoolean() ? (int) model.value(1, 1) : any(-9, 9);
                     if (random.nextInt(3) == 0 && model.value(sx, sy) < 9999) v = (int) model.value(sx, sy);
                     eq("see " + sx + " " + sy + " " + v, x.see(sx, sy, v), model.see(sx, sy, v)); break;
            case 12: int what = any(0, 2), n = what == 2 ? any(-99, 99) : any(0, 4); eq("event " + what + " " + n, x.event(what, n), model.event(what, n)); break;
            case 13: int bi = any(0, 4), ba = random.nextInt(4) > 0 ? Math.max(0, model.of(bi)) - 100 : small();
                     eq("book " + bi + " " + ba, x.book(bi, ba), model.book(bi, ba)); break;
            case 14: if (random.nextInt(3) == 0) eq("image", x.image(), model.image()); break;
            default: if (random.nextInt(3) == 0) eq("undo", x.undo(), model.undo()); break;
        }
    }

    private void turn() {
        int most = random.nextInt(4) == 0 ? 9 : 1;
        int u = any(-most, most), v = any(-most, most), w = any(-most, most), z = any(-most, most);
        eq("turn " + u + " " + v + " " + w + " " + z, x.turn(u, v, w, z), model.turn(u, v, w, z));
    }

    private String clause() {
        switch (random.nextInt(7)) {
            case 0: return "d" + (2 + random.nextInt(3));
            case 1: return "=" + (random.nextInt(60) - 30);
            case 2: return "w" + any(1, 12);
            case 3: return "t" + random.nextInt(6);
            default: return "a" + random.nextInt(5) + (random.nextInt(19) - 9);
        }
    }

    private void setUp() {
        StringBuilder text = new StringBuilder(clause());
        int many = random.nextInt(random.nextInt(10) == 0 ? 14 : 5);
        for (int k = 0; k < many; k++) {
            text.append(';').append(clause());
        }
        for (int k = random.nextInt(6) - 3; k > 0 && text.length() > 0; k--) {
            int at = random.nextInt(text.length());
            char sign = SIGNS.charAt(random.nextInt(SIGNS.length()));
            if (random.nextBoolean()) text.setCharAt(at, sign);
            else if (random.nextBoolean()) text.insert(at, sign);
            else text.deleteCharAt(at);
        }
        for (int k = 0; k < text.length(); k++) {
            eq("feed " + text.charAt(k), x.feed(text.charAt(k)), model.feed(text.charAt(k)));
        }
        if (random.nextInt(12) > 0) eq("read of " + text, x.read(), model.read());
        if (random.nextInt(12) == 0) eq("odd feed", x.feed(128), model.feed(128));
    }

    private void ask(int which) {
        int i = any(0, 8), what = any(0, 2), k = any(0, 7), part = any(0, 1);
        switch (which) {
            case 0: eq("of " + i, x.of(i), model.of(i)); break;
            case 1: case 2: case 3: int told = any(0, 7); eq("told " + told, x.told(told), model.told(told)); break;
            case 4: int vx = any(-999, 999), vy = any(-999, 999); eq("value " + vx + " " + vy, x.value(vx, vy), model.value(vx, vy)); break;
            case 5: case 6: eq("answer " + i + " " + what, x.answer(i, what), model.answer(i, what)); break;
            case 7: int prime = any(0, 5); eq("prime " + prime + " " + what, x.prime(prime, what), model.prime(prime, what)); break;
            case 8: int r = any(0, 3); eq("reason " + r, x.reason(r), model.reason(r)); break;
            case 9: int uw = any(0, 3); eq("unit " + i + " " + uw, x.unit(i, uw), model.unit(i, uw)); break;
            case 10: int f = any(0, 3); eq("family " + f, x.family(f), model.family(f)); break;
            case 11: eq("part " + k, x.part(k), model.part(k)); break;
            case 12: eq("convergent " + k + " " + part, x.convergent(k, part), model.convergent(k, part)); break;
            case 13: int n = any(0, 4); eq("fits " + n + " " + part, x.fits(n, part), model.fits(n, part)); break;
            case 14: eq("odds " + part, x.odds(part), model.odds(part)); break;
            case 15: eq("mean " + part, x.mean(part), model.mean(part)); break;
            case 16: case 17: eq("after " + what, x.after(what), model.after(what)); break;
            case 18: eq("looked", x.looked(), model.looked()); break;
            default: int c = any(0, 3); eq("count " + c, x.count(c), model.count(c)); break;
        }
    }

    private void handle(int which) {
        int tape = any(0, 5), other = any(0, 5), i = any(0, 6), j = any(0, 6), n = any(0, 6);
        switch (which) {
            case 0: int sort = random.nextBoolean() ? 1 : any(-1, 4), size = any(0, 12);
                    eq("tape " + tape + " " + sort + " " + size, x.tape(tape, sort, size), model.tape(tape, sort, size)); break;
            case 1: long v = random.nextBoolean() ? random.nextLong() >> random.nextInt(64) : random.nextInt(3) - 1;
                    eq("item " + tape + " " + i + " " + v, x.item(tape, i, v), model.item(tape, i, v)); break;
            case 2: eq("peek " + tape + " " + i, x.peek(tape, i), model.peek(tape, i)); break;
            case 3: eq("shift " + tape + " " + i + " " + other + " " + j + " " + n, x.shift(tape, i, other, j, n), model.shift(tape, i, other, j, n)); break;
            case 4: numbersTold(tape, j); break;
            default: eq("judge " + tape + " " + i, x.judge(tape, i), model.judge(tape, i)); break;
        }
    }

    /** What stands in the way of a judgement is mostly the first item, so that NUMBERS are told as they are here. */
    private void numbersTold(int tape, int from) {
        for (int k = 0; k < model.told(0) + 1 - random.nextInt(2); k++) {
            long v = model.of(k) - 100;
            eq("item " + tape + " " + (from + k) + " " + v, x.item(tape, from + k, v), model.item(tape, from + k, v));
        }
        eq("judge " + tape + " " + from, x.judge(tape, from), model.judge(tape, from));
    }
}
