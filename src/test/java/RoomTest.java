import com.sun.management.ThreadMXBean;
import java.lang.management.ManagementFactory;

/** All calls of a run share one room, so that the calls themselves make nothing; a new object is small. */
public final class RoomTest {
    private static final Due due = new Due("RoomTest");
    private static final ThreadMXBean THREADS = (ThreadMXBean) ManagementFactory.getThreadMXBean();
    private static final int CALLS = 512, KINDS = 35;
    // 7.3 million elements of 8 bytes would be 58 million; 512 new objects have to stay below.
    private static final long BYTES_OF_AN_OBJECT = 58_000_000L / CALLS;
    // What the measuring itself and the machine's own work may make.
    private static final long SLACK = 64_000;

    private static volatile TwoLetterForms last;
    private static volatile long sum;

    public static void main(String[] args) {
        last = new TwoLetterForms();
        long ahead = made();
        last = new TwoLetterForms();
        long ofOne = made() - ahead;
        due.yes("a new object is small", ofOne < BYTES_OF_AN_OBJECT);
        for (int kind = 0; kind < KINDS; kind++) {
            TwoLetterForms x = dearest();
            call(x, kind, 0);
            long from = made();
            for (int k = 1; k < CALLS; k++) {
                call(x, kind, k);
            }
            // Joining the words below makes objects, too.
            long much = made() - from;
            due.yes("calls of kind " + kind + " make nothing", much < SLACK);
        }
        due.end();
    }

    private static long made() {
        return THREADS.getThreadAllocatedBytes(Thread.currentThread().getId());
    }

    /** All twos are answers, all small turns are units. */
    private static TwoLetterForms dearest() {
        TwoLetterForms x = new TwoLetterForms();
        x.degree(4);
        x.equal(0);
        x.window(40);
        x.image();
        for (int k = 0; k < 8; k++) {
            x.event(1, k % 4);
            x.book(0, 0);
            x.see(1, 1, 0);
        }
        x.tape(0, 1, 60);
        x.tape(1, 1, 60);
        return x;
    }

    private static void call(TwoLetterForms x, int kind, int k) {
        switch (kind) {
            case 0: sum += x.degree(2 + k % 3); break;
            case 1: sum += x.number(0, k % 99); break;
            case 2: sum += x.equal(k); break;
            case 3: sum += x.window(1 + k % 40); break;
            case 4: sum += x.move(k % 5); break;
            case 5: sum += x.turn(k % 3, 1, 0, 1); break;
            case 6: sum += x.feed('d'); break;
            case 7: sum += x.feed("t0;a01;w40;".charAt(k % 11)); if (k % 11 == 9) sum += x.read(); break;
            case 8: sum += x.of(k % 5); break;
            // All of them are found anew, for the window has become another.
            case 9: x.window(39 + k % 2); sum += x.told(5); break;
            case 10: sum += x.told(3) + x.told(4) + x.told(6) + x.told(7); break;
            case 11: sum += x.value(k, -k); break;
            case 12: x.window(39 + k % 2); sum += x.answer(6000, 2); break;
            case 13: sum += x.prime(k % 6, k % 3); break;
            case 14: x.equal(k % 2); sum += x.reason(2); break;
            case 15: sum += x.unit(k % 104, k % 4); break;
            case 16: sum += x.family(k % 41); break;
            case 17: x.number(4, -(k % 99)); x.number(0, 1); sum += x.part(7); break;
            case 18: sum += x.convergent(0, k % 2); break;
            case 19: sum += x.see(k % 9, 0, 0); break;
            case 20: sum += x.fits(k % 5, k % 2); break;
            case 21: sum += x.odds(k % 2); break;
            case 22: sum += x.mean(k % 2); break;
            case 23: sum += x.event(k % 3 - 1, 0); break;
            case 24: sum += x.after(k % 3); break;
            case 25: sum += x.book(k % 6 - 1, 0); break;
            case 26: sum += x.looked(); break;
            case 27: sum += x.judge(0, k % 60); break;
            case 28: sum += x.image(); break;
            case 29: sum += x.undo(); break;
            case 30: sum += x.count(k % 4); break;
            case 31: sum += x.tape(k % 6, k % 5, 60); break;
            case 32: sum += x.item(0, k % 60, k); break;
            case 33: sum += x.peek(0, k % 60); break;
            default: sum += x.shift(0, 0, k % 2, 1, 59); break;
        }
    }
}
