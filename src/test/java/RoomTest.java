import com.sun.management.ThreadMXBean;
import java.lang.management.ManagementFactory;

/** What the dearest runs of 512 calls make, in bytes: nothing that was made is given back in the room of a run. */
public final class RoomTest {
    // 7.3 million fields and elements are above 29 million bytes; a run should stay far below.
    private static final long ROOM = 15_000_000;
    private static final ThreadMXBean BEAN = (ThreadMXBean) ManagementFactory.getThreadMXBean();
    private static int wrong = 0;

    interface Run {
        void go();
    }

    private static void room(String name, Run run) {
        // The first run loads classes, which is not counted.
        run.go();
        long thread = Thread.currentThread().getId();
        long before = BEAN.getThreadAllocatedBytes(thread);
        run.go();
        long bytes = BEAN.getThreadAllocatedBytes(thread) - before;
        System.out.println(name + ": " + bytes + " bytes");
        if (bytes > ROOM) {
            wrong++;
            System.out.println("  that is more than " + ROOM);
        }
    }

    public static void main(String[] args) {
        room("512 new objects", () -> {
            for (int i = 0; i < 512; i++) new MagpieAccounts();
        });
        room("texts", RoomTest::texts);
        room("images", () -> {
            MagpieAccounts x = busy();
            for (int i = 0; i < 200; i++) {
                x.image();
                x.day(1);
                x.back();
            }
        });
        room("days and undo", () -> {
            MagpieAccounts x = busy();
            for (int i = 0; i < 120; i++) {
                x.day(60);
                x.years(i, 40);
                x.undo();
                x.foretold(60, 0);
            }
        });
        room("asking", RoomTest::asking);
        if (wrong != 0) System.exit(1);
    }

    private static MagpieAccounts busy() {
        MagpieAccounts x = new MagpieAccounts();
        for (int i = 0; i < 8; i++) x.bird(1, 0, 5);
        x.day(60);
        for (int p = 0; p < 5; p++) x.votes(p, 100 * p + 7);
        return x;
    }

    // Each TEXT is as long as can be, and is gone back from so that there is room for the next.
    private static void texts() {
        MagpieAccounts x = new MagpieAccounts();
        x.end(0);
        for (int i = 0; i < 28; i++) {
            // "brin" "gs 1" "+1+1" and so on to 299 bytes, and "; "
            x.feed(0x6272696e, 0x67732031, 0x2b312b31, 0x2b312b31, 0x2b312b31);
            for (int j = 1; j < 14; j++) x.feed(0x2b312b31, 0x2b312b31, 0x2b312b31, 0x2b312b31, 0x2b312b31);
            x.feed(0x2b312b31, 0x2b312b31, 0x2b312b31, 0x2b312b31, 0x2b313b20);
            if (x.text() != 0) {
                wrong++;
                System.out.println("  the text has the fault " + x.fault(0) + " at " + x.fault(1));
            }
            x.by(0);
            x.back();
        }
    }

    private static void asking() {
        MagpieAccounts x = busy();
        for (int i = 0; i < 30; i++) {
            x.best(i % 9, false);
            x.likely(i % 9, true);
            x.mean(true);
            x.comes(8);
            x.gather();
            x.habits();
            x.after(3, 1000000);
            x.sure(12, 5, 9, true);
            x.unlike(i);
            x.winner();
            x.runoff();
            x.digit(99, 50, 3);
            x.rests(999);
            x.take(40, 40);
            x.whose();
            x.ledger(3);
        }
    }
}
