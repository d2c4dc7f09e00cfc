import java.lang.reflect.Array;
import java.math.BigInteger;
import java.util.ArrayList;
import java.util.Arrays;
import java.util.HashMap;
import java.util.List;
import java.util.Map;
import java.util.TreeMap;
import java.util.TreeSet;
import java.util.regex.Matcher;
import java.util.regex.Pattern;

/**
 * The document over again, by other ways than the class goes: with the library's lists and great numbers,
 * regular expressions for THE TEXT and rows of the host's own for TAPES. Dear, but plain.
 */
final class Model {
    static final long NO = Long.MIN_VALUE;
    private static final int[] PRIMES = {2, 3, 5, 7, 11, 13};
    private static final int[][] MOVES = {{1, 1, 0, 1}, {1, -1, 0, 1}, {0, 1, 1, 0}, {-1, 0, 0, 1}};
    private static final Pattern CLAUSE = Pattern.compile("d[0-9]|a[0-9]-?[0-9]{1,4}|[=w]-?[0-9]{1,4}|t[0-9]");
    private static final Pattern SET_UP = Pattern.compile("(?:" + CLAUSE + ")(?:;(?:" + CLAUSE + ")){0,11}", Pattern.DOTALL);

    /** What THE IMAGE holds; never changed, but made anew. */
    private record State(List<Integer> numbers, int m, int b, List<List<Integer>> seen, List<List<Integer>> events, List<List<Integer>> book) {
        State with(List<Integer> newNumbers) {
            return new State(newNumbers, m, b, seen, events, book);
        }

        int degree() {
            return numbers.size() - 1;
        }

        boolean has(int i) {
            return i >= 0 && i < numbers.size();
        }
    }

    private State now = new State(List.of(0, 0, 0, 0), 1, 10, List.of(), List.of(), List.of());
    private State image = null;
    private String text = "";
    private final Object[] tapes = new Object[6];
    private static final Map<List<Integer>, List<int[]>> UNITS = new HashMap<>();
    private final Map<List<Object>, Map<List<Integer>, Integer>> families = new HashMap<>();

    private static boolean beyond(int n, int most) {
        return n < -most || n > most;
    }

    private static <T> List<T> and(List<T> list, T one) {
        List<T> longer = new ArrayList<>(list);
        longer.add(one);
        return longer;
    }

    private static BigInteger big(long n) {
        return BigInteger.valueOf(n);
    }

    private static long valueAt(List<Integer> numbers, long x, long y) {
        int d = numbers.size() - 1;
        BigInteger sum = BigInteger.ZERO;
        for (int i = 0; i <= d; i++) {
            sum = sum.add(big(numbers.get(i)).multiply(big(x).pow(d - i)).multiply(big(y).pow(i)));
        }
        return sum.longValueExact();
    }

    private static long smallValueAt(List<Integer> numbers, int x, int y) {
        long sum = 0;
        for (int i = 0; i < numbers.size(); i++) {
            long one = numbers.get(i);
            for (int k = 0; k < numbers.size() - 1; k++) {
                one *= k < i ? y : x;
            }
            sum += one;
        }
        return sum;
    }

    private static BigInteger choose(int n, int k) {
        BigInteger all = BigInteger.ONE;
        for (int i = 0; i < k; i++) {
            all = all.multiply(big(n - i)).divide(big(i + 1));
        }
        return all;
    }

    /** Null: a NUMBER would be beyond. */
    private static List<Integer> turned(List<Integer> numbers, int u, int v, int w, int z) {
        int d = numbers.size() - 1;
        BigInteger[] sums = new BigInteger[d + 1];
        Arrays.fill(sums, BigInteger.ZERO);
        for (int i = 0; i <= d; i++) {
            for (int j = 0; j <= d - i; j++) {
                for (int k = 0; k <= i; k++) {
                    BigInteger one = big(numbers.get(i)).multiply(choose(d - i, j)).multiply(choose(i, k));
                    one = one.multiply(big(u).pow(d - i - j)).multiply(big(v).pow(j)).multiply(big(w).pow(i - k)).multiply(big(z).pow(k));
                    sums[j + k] = sums[j + k].add(one);
                }
            }
        }
        List<Integer> row = new ArrayList<>();
        for (BigInteger sum : sums) {
            if (sum.abs().compareTo(big(99)) > 0) return null;
            row.add(sum.intValueExact());
        }
        return row;
    }

    private static List<Integer> moved(List<Integer> numbers, int move) {
        if (move < 4) return turned(numbers, MOVES[move][0], MOVES[move][1], MOVES[move][2], MOVES[move][3]);
        List<Integer> row = new ArrayList<>();
        for (int a : numbers) {
            row.add(-a);
        }
        return row;
    }

    /** Forms of degree d are alike if they are so at d + 1 twos of unlike directions. */
    private static boolean leaves(List<Integer> numbers, int u, int v, int w, int z) {
        for (int x = 0; x <= 4; x++) {
            if (smallValueAt(numbers, u * x + v, w * x + z) != smallValueAt(numbers, x, 1)) return false;
        }
        return smallValueAt(numbers, u, w) == smallValueAt(numbers, 1, 0);
    }

    private static List<int[]> units(List<Integer> numbers) {
        List<int[]> found = UNITS.get(numbers);
        if (found != null) return found;
        found = new ArrayList<>();
        for (int code = 0; code < 625; code++) {
            int u = code / 125 - 2;
            int v = code / 25 % 5 - 2;
            int w = code / 5 % 5 - 2;
            int z = code % 5 - 2;
            if (Math.abs(u * z - v * w) == 1 && leaves(numbers, u, v, w, z)) found.add(new int[] {u, v, w, z});
        }
        UNITS.put(numbers, found);
        return found;
    }

    private List<List<Integer>> answers(State of) {
        List<List<Integer>> found = new ArrayList<>();
        for (int x = -of.b; x <= of.b; x++) {
            for (int y = -of.b; y <= of.b; y++) {
                if (smallValueAt(of.numbers, x, y) == of.m) found.add(List.of(x, y));
            }
        }
        return found;
    }

    /** By the least ANSWER's number that links lead to, handed on until nothing changes. */
    private Map<List<Integer>, Integer> families() {
        List<Object> key = List.of(now.numbers, now.m, now.b);
        Map<List<Integer>, Integer> known = families.get(key);
        if (known != null) return known;
        List<List<Integer>> found = answers(now);
        Map<List<Integer>, Integer> least = new HashMap<>();
        for (int i = 0; i < found.size(); i++) {
            least.put(found.get(i), i);
        }
        boolean again = true;
        while (again) {
            again = false;
            for (List<Integer> one : found) {
                for (int[] unit : units(now.numbers)) {
                    List<Integer> to = List.of(unit[0] * one.get(0) + unit[1] * one.get(1), unit[2] * one.get(0) + unit[3] * one.get(1));
                    Integer there = least.get(to);
                    if (there == null || there.equals(least.get(one))) continue;
                    int both = Math.min(there, least.get(one));
                    least.put(to, both);
                    least.put(one, both);
                    again = true;
                }
            }
        }
        List<Integer> leasts = new ArrayList<>(new TreeSet<>(least.values()));
        for (List<Integer> one : found) {
            least.put(one, leasts.indexOf(least.get(one)));
        }
        families.clear();
        families.put(key, least);
        return least;
    }

    private int howManyFamilies() {
        return new TreeSet<>(families().values()).size();
    }

    private static BigInteger at(List<BigInteger> row, int n) {
        int d = row.size() - 1;
        BigInteger sum = BigInteger.ZERO;
        for (int i = 0; i <= d; i++) {
            sum = sum.add(row.get(i).multiply(big(n).pow(d - i)));
        }
        return sum;
    }

    private static List<BigInteger> behind(List<BigInteger> row, int n) {
        int d = row.size() - 1;
        List<BigInteger> next = new ArrayList<>();
        // t^d f(n + 1/t): at t^(d - k) stand, from each a t^(d - i), as many as (n + s)^(d - i) has s^k.
        for (int k = 0; k <= d; k++) {
            BigInteger sum = BigInteger.ZERO;
            for (int i = 0; i + k <= d; i++) {
                sum = sum.add(row.get(i).multiply(choose(d - i, k)).multiply(big(n).pow(d - i - k)));
            }
            next.add(sum);
        }
        return next;
    }

    private List<Integer> parts() {
        List<BigInteger> row = new ArrayList<>();
        for (int a : now.numbers) {
            row.add(big(a));
        }
        List<Integer> found = new ArrayList<>();
        while (found.size() < 8) {
            int best = -1;
            for (int n = found.isEmpty() ? 0 : 1; n <= 99; n++) {
                int here = at(row, n).signum();
                int then = at(row, n + 1).signum();
                if (here == 0 || here * then < 0) best = n;
            }
            if (best < 0) return found;
            found.add(best);
            if (at(row, best).signum() == 0) return found;
            row = behind(row, best);
            for (BigInteger a : row) {
                if (a.abs().compareTo(big(1000000000)) > 0) return found;
            }
        }
        return found;
    }

    /** From the back: n and 1 by what is behind it. */
    private static BigInteger[] fraction(List<Integer> parts, int k) {
        BigInteger above = big(parts.get(k));
        BigInteger below = BigInteger.ONE;
        for (int i = k - 1; i >= 0; i--) {
            BigInteger turned = above.multiply(big(parts.get(i))).add(below);
            below = above;
            above = turned;
        }
        BigInteger common = above.gcd(below);
        return new BigInteger[] {above.divide(common), below.divide(common)};
    }

    private static TreeSet<Integer> remainders(List<Integer> numbers, int p) {
        TreeSet<Integer> found = new TreeSet<>();
        for (int x = 0; x < p; x++) {
            for (int y = 0; y < p; y++) {
                found.add((int) (((smallValueAt(numbers, x, y) % p) + p) % p));
            }
        }
        return found;
    }

    private static boolean bars(State of, int p) {
        return !remainders(of.numbers, p).contains(((of.m % p) + p) % p);
    }

    private static int firstBar(State of) {
        for (int p : PRIMES) {
            if (bars(of, p)) return p;
        }
        return -5;
    }

    private static long lowest(long above, long below, int part) {
        BigInteger common = big(above).gcd(big(below));
        return (part == 0 ? big(above) : big(below)).divide(common).longValueExact();
    }

    int degree(int d) {
        if (d < 2 || d > 4) return -2;
        int was = now.degree();
        now = now.with(List.of(0, 0, 0, 0, 0).subList(0, d + 1));
        return was;
    }

    int number(int i, int a) {
        if (!now.has(i)) return -1;
        if (beyond(a, 99)) return -2;
        int was = now.numbers.get(i);
        List<Integer> row = new ArrayList<>(now.numbers);
        row.set(i, a);
        now = now.with(row);
        return was + 100;
    }

    int equal(int m) {
        if (beyond(m, 9999)) return -2;
        int was = now.m;
        now = new State(now.numbers, m, now.b, now.seen, now.events, now.book);
        return was + 10000;
    }

    int window(int b) {
        if (b < 1 || b > 40) return -2;
        int was = now.b;
        now = new State(now.numbers, now.m, b, now.seen, now.events, now.book);
        return was;
    }

    int move(int move) {
        if (move < 0 || move > 4) return -1;
        return take(moved(now.numbers, move));
    }

    int turn(int u, int v, int w, int z) {
        if (beyond(u, 9) || beyond(v, 9) || beyond(w, 9) || beyond(z, 9)) return -2;
        return take(turned(now.numbers, u, v, w, z));
    }

    private int take(List<Integer> row) {
        if (row == null) return -3;
        now = now.with(row);
        return 1;
    }

    int feed(int sign) {
        if (sign < 0 || sign > 127) return -2;
        if (text.length() == 100) return -4;
        text += (char) sign;
        return text.length();
    }

    int read() {
        String all = text;
        text = "";
        for (int i = 0; i <= all.length(); i++) {
            Matcher begun = SET_UP.matcher(all.substring(0, i));
            boolean whole = begun.matches();
            if (!whole && !begun.hitEnd()) return -10 - (i - 1);
            if (!whole && i == all.length()) return -10 - i;
        }
        int done = 0;
        for (String clause : all.split(";")) {
            if (clauseAnswer(clause) >= 0) done++;
        }
        return done;
    }

    private int clauseAnswer(String clause) {
        int digit = clause.charAt(1) - '0';
        switch (clause.charAt(0)) {
            case 'd': return degree(digit);
            case 'a': return number(digit, Integer.parseInt(clause.substring(2)));
            case '=': return equal(Integer.parseInt(clause.substring(1)));
            case 'w': return window(Integer.parseInt(clause.substring(1)));
            default: return move(digit);
        }
    }

    int of(int i) {
        return now.has(i) ? now.numbers.get(i) + 100 : -1;
    }

    int told(int what) {
        switch (what) {
            case 0: return now.degree();
            case 1: return now.m + 10000;
            case 2: return now.b;
            case 3: return answers(now).size();
            case 4: return units(now.numbers).size();
            case 5: return howManyFamilies();
            case 6: return parts().size();
            case 7: return convergentAnswers();
            default: return -1;
        }
    }

    private int convergentAnswers() {
        List<Integer> parts = parts();
        List<List<Integer>> found = answers(now);
        int many = 0;
        for (int k = 0; k < parts.size(); k++) {
            BigInteger[] one = fraction(parts, k);
            if (one[0].bitLength() < 20 && one[1].bitLength() < 20 && found.contains(List.of(one[0].intValue(), one[1].intValue()))) many++;
        }
        return many;
    }

    long value(int x, int y) {
        return beyond(x, 999) || beyond(y, 999) ? NO : valueAt(now.numbers, x, y);
    }

    int answer(int i, int what) {
        if (i < 0 || what < 0 || what > 2) return -1;
        List<List<Integer>> found = answers(now);
        if (i >= found.size()) return -5;
        return what == 2 ? families().get(found.get(i)) : found.get(i).get(what) + 100;
    }

    int prime(int prime, int what) {
        if (prime < 0 || prime > 5 || what < 0 || what > 2) return -1;
        int p = PRIMES[prime];
        if (what == 0) return p;
        return what == 1 ? remainders(now.numbers, p).size() : bars(now, p) ? 1 : 0;
    }

    int reason(int i) {
        if (i < 0) return -1;
        List<Integer> reasons = new ArrayList<>();
        if (answers(now).isEmpty()) {
            reasons.add(now.b);
            int p = firstBar(now);
            if (p != -5) {
                reasons.add(p);
                reasons.add(remainders(now.numbers, p).size());
            }
        }
        return i < reasons.size() ? reasons.get(i) : -5;
    }

    int unit(int i, int what) {
        if (i < 0 || what < 0 || what > 3) return -1;
        List<int[]> found = units(now.numbers);
        return i < found.size() ? found.get(i)[what] + 10 : -5;
    }

    int family(int i) {
        if (i < 0) return -1;
        Map<Integer, Integer> sizes = new TreeMap<>();
        for (int family : families().values()) {
            sizes.merge(family, 1, Integer::sum);
        }
        return sizes.getOrDefault(i, -5);
    }

    int part(int k) {
        if (k < 0) return -1;
        List<Integer> found = parts();
        return k < found.size() ? found.get(k) : -5;
    }

    long convergent(int k, int part) {
        if (k < 0 || part < 0 || part > 1) return NO;
        List<Integer> found = parts();
        return k < found.size() ? fraction(found, k)[part].longValueExact() : NO;
    }

    int see(int x, int y, int v) {
        List<List<Integer>> rows = List.of();
        if (x != -100) {
            if (beyond(x, 9) || beyond(y, 9) || beyond(v, 9999)) return -2;
            if (now.seen.size() == 4) return -4;
            rows = and(now.seen, List.of(x, y, v));
        }
        now = new State(now.numbers, now.m, now.b, rows, now.events, now.book);
        return rows.size();
    }

    int fits(int i, int what) {
        if (!now.has(i) || what < 0 || what > 1) return -1;
        List<Integer> found = new ArrayList<>();
        for (int a = -99; a <= 99; a++) {
            List<Integer> row = new ArrayList<>(now.numbers);
            row.set(i, a);
            boolean all = true;
            for (List<Integer> one : now.seen) {
                all &= smallValueAt(row, one.get(0), one.get(1)) == one.get(2);
            }
            if (all) found.add(a);
        }
        if (what == 0) return found.size();
        return found.isEmpty() ? 0 : found.get(0) + 100;
    }

    long odds(int part) {
        if (part < 0 || part > 1) return NO;
        long above = 0;
        long all = 0;
        for (int x = -now.b; x <= now.b; x++) {
            for (int y = -now.b; y <= now.b; y++) {
                all++;
                if (smallValueAt(now.numbers, x, y) > now.m) above++;
            }
        }
        return lowest(above, all, part);
    }

    long mean(int part) {
        if (part < 0 || part > 1) return NO;
        long sum = 0;
        long all = 0;
        for (int x = -now.b; x <= now.b; x++) {
            for (int y = -now.b; y <= now.b; y++) {
                all++;
                sum += smallValueAt(now.numbers, x, y);
            }
        }
        return lowest(sum, all, part);
    }

    int event(int what, int n) {
        List<List<Integer>> rows = List.of();
        if (what != -1) {
            if (what < 0 || what > 2) return -1;
            if (what == 0 && !now.has(n)) return -1;
            if (what == 1 && (n < 0 || n > 4)) return -1;
            if (what == 2 && beyond(n, 99)) return -2;
            if (now.events.size() == 8) return -4;
            rows = and(now.events, List.of(what, n));
        }
        now = new State(now.numbers, now.m, now.b, now.seen, rows, now.book);
        return rows.size();
    }

    int after(int what) {
        if (what < 0 || what > 2) return -1;
        State then = now;
        for (List<Integer> event : now.events) {
            int n = event.get(1);
            List<Integer> row = new ArrayList<>(then.numbers);
            int m = then.m;
            if (event.get(0) == 0 && then.has(n)) row.set(n, Math.min(99, row.get(n) + 1));
            if (event.get(0) == 1 && moved(row, n) != null) row = moved(row, n);
            if (event.get(0) == 2 && !beyond(m + n, 9999)) m += n;
            then = new State(row, m, then.b, then.seen, then.events, then.book);
        }
        if (what == 0) return answers(then).size();
        return what == 1 ? firstBar(then) : units(then.numbers).size();
    }

    int book(int i, int a) {
        List<List<Integer>> rows = List.of();
        if (i != -1) {
            if (!now.has(i)) return -1;
            if (beyond(a, 99)) return -2;
            if (now.book.size() == 8) return -4;
            rows = and(now.book, List.of(i, a));
        }
        now = new State(now.numbers, now.m, now.b, now.seen, now.events, rows);
        return rows.size();
    }

    int looked() {
        for (List<Integer> row : now.book) {
            if (!now.has(row.get(0)) || !now.numbers.get(row.get(0)).equals(row.get(1))) return now.book.indexOf(row);
        }
        return -5;
    }

    private boolean noTape(int tape) {
        return tape < 0 || tape > 5;
    }

    int judge(int tape, int i) {
        if (noTape(tape)) return -1;
        if (tapes[tape] == null) return 100;
        if (!(tapes[tape] instanceof short[] row)) return -12;
        if (i < 0) return 100;
        for (int k = 0; k < now.numbers.size(); k++) {
            if ((long) i + k >= row.length) return 100 + k;
            if (row[i + k] != now.numbers.get(k)) return k;
        }
        return -5;
    }

    int image() {
        image = now;
        return now.degree();
    }

    int undo() {
        if (image == null) return -3;
        now = image;
        return now.degree();
    }

    int count(int what) {
        if (what < 0 || what > 3) return -2;
        return List.of(now.seen.size(), now.events.size(), now.book.size(), text.length()).get(what);
    }

    int tape(int tape, int sort, int n) {
        if (noTape(tape)) return -1;
        if (sort < -1 || sort > 4 || sort >= 0 && n > 60) return -2;
        try {
            Class<?>[] sorts = {byte.class, short.class, int.class, long.class, boolean.class};
            tapes[tape] = sort < 0 ? null : Array.newInstance(sorts[sort], n);
            return 1;
        } catch (NegativeArraySizeException e) {
            return -14;
        }
    }

    int item(int tape, int i, long v) {
        if (noTape(tape)) return -1;
        if (tapes[tape] == null) return -11;
        try {
            if (tapes[tape] instanceof byte[] row) row[i] = (byte) v;
            if (tapes[tape] instanceof short[] row) row[i] = (short) v;
            if (tapes[tape] instanceof int[] row) row[i] = (int) v;
            if (tapes[tape] instanceof long[] row) row[i] = v;
            if (tapes[tape] instanceof boolean[] row) row[i] = v != 0;
            return 1;
        } catch (ArrayIndexOutOfBoundsException e) {
            return -13;
        }
    }

    long peek(int tape, int i) {
        if (noTape(tape) || tapes[tape] == null) return NO;
        try {
            return tapes[tape] instanceof boolean[] row ? (row[i] ? 1 : 0) : Array.getLong(tapes[tape], i);
        } catch (ArrayIndexOutOfBoundsException e) {
            return NO;
        }
    }

    int shift(int tape, int i, int other, int j, int n) {
        if (noTape(tape) || noTape(other)) return -1;
        try {
            System.arraycopy(tapes[tape], i, tapes[other], j, n);
            return n;
        } catch (NullPointerException e) {
            return -11;
        } catch (ArrayStoreException e) {
            return -12;
        } catch (ArrayIndexOutOfBoundsException e) {
            return -13;
        }
    }
}
