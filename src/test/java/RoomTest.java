import java.lang.management.ManagementFactory;

/** What a run makes: all of it lives in one room, so the calls must make next to nothing. */
public final class RoomTest {
    private static final Checks CHECKS = new Checks();
    private static final com.sun.management.ThreadMXBean THREADS =
            (com.sun.management.ThreadMXBean) ManagementFactory.getThreadMXBean();

    public static void main(String[] args) {
        // What is made once, by the first use of the meter and of the class, is not counted.
        bytesOfRun(0);
        atMost("a new object", bytesOfNew(), 10_000);
        for (int call = 0; call < 14; call++) {
            atMost("400 calls of sort " + call, bytesOfRun(call), 1_000);
        }
        atMost("valleys made anew", bytesOfValleys(), 60_000);
        CHECKS.end("RoomTest");
    }

    private static void atMost(String what, long bytes, long limit) {
        CHECKS.due(what + " made " + bytes + " bytes: at most " + limit, bytes <= limit ? 1 : 0, 1);
    }

    private static long made() {
        return THREADS.getCurrentThreadAllocatedBytes();
    }

    private static long bytesOfNew() {
        long before = made();
        TwinTools x = new TwinTools();
        long bytes = made() - before;
        CHECKS.due("it is there", x.count(0), 0);
        return bytes;
    }

    private static TwinTools full() {
        TwinTools x = new TwinTools();
        Checks.valley(x, "worth 9 !(h<12&k>0)|(s=1|(t=4&(x=1|h>20)));less 3 h=5|h=6|h=7|h=8;worth 1 t>3;bell 1");
        for (int p = 0; p < 8; p++) {
            x.person(p % 7, p, p % 4);
            x.free(p, (1 << 24) - 1 - (1 << p));
        }
        for (int t = 0; t < 6; t++) {
            x.tool(t % 4, t);
        }
        for (int t = 0; t < 6; t += 2) {
            x.twin(t, t + 1);
        }
        for (int i = 0; i < 12; i++) {
            x.trial(i % 2, 2 + i % 2, false);
            x.book(i, i % 6);
        }
        return x;
    }

    private static long bytesOfRun(int call) {
        TwinTools x = full();
        long before = made();
        long sum = 0;
        for (int i = 0; i < 400; i++) {
            sum += one(x, call, i);
        }
        long bytes = made() - before;
        CHECKS.due("it ran", sum == Long.MIN_VALUE ? 1 : 0, 0);
        return bytes;
    }

    private static long one(TwinTools x, int call, int i) {
        switch (call) {
            case 0: return x.change(2);
            case 1: return x.worst();
            case 2: return x.join(i % 7 - 1);
            case 3: return x.day(i % 4);
            case 4: return x.hour(i % 24, i % 5);
            case 5: return x.of(i % 6, 4);
            case 6: return x.looked();
            case 7: return x.find(i % 2) + x.fits(i % 6);
            case 8: return x.image();
            case 9: return x.undo() + x.image();
            case 10: return x.act(i % 8, i % 3, i);
            case 11: return x.once(i % 11, 7, 4, i % 2);
            case 12: return x.feed('w') + x.valley();
            default: return x.at(i % 8, i % 24) + x.away(i % 8);
        }
    }

    /** As often as 512 calls let it: seven to read one, and one to take it back. */
    private static long bytesOfValleys() {
        TwinTools x = new TwinTools();
        x.image();
        long before = made();
        for (int i = 0; i < 63; i++) {
            CHECKS.due("valley", Checks.valley(x, "bell 1"), 0);
            x.undo();
        }
        return made() - before;
    }
}
