import java.lang.management.ManagementFactory;

/** 512 of the dearest calls make next to nothing, and an object itself is small. */
public final class RoomTest {
    private static final com.sun.management.ThreadMXBean THREADS =
        (com.sun.management.ThreadMXBean) ManagementFactory.getThreadMXBean();

    public static void main(String[] args) {
        Simplespan x = dear();
        long before = bytes();
        Simplespan another = new Simplespan();
        below("an object", 40_000, before);
        another.addEvent();
        go(x, 64);
        before = bytes();
        go(x, 512);
        below("512 calls", 100_000, before);
        Check.end();
    }

    private static long bytes() {
        return THREADS.getThreadAllocatedBytes(Thread.currentThread().getId());
    }

    private static void below(String what, long most, long before) {
        long made = bytes() - before;
        System.out.println(what + " made " + made + " bytes");
        Check.same(what + " made at most " + most + " bytes", "true", String.valueOf(made <= most));
    }

    private static Simplespan dear() {
        Simplespan x = Check.plan(9);
        x.addSpan(1, 2, 3, 8);
        x.addSpan(3, 4, 4, 40);
        x.addSpan(0, 9, 10, 60);
        for (int i = 0; i < 20; i++) {
            x.bound(i % 10, (i * 3 + 1) % 10, 400, 0);
        }
        for (int i = 0; i < 5; i++) {
            x.addActivity(i, i + 4, 9);
        }
        x.setCapacity(0);
        return x;
    }

    /** Each call behind a change, so that nothing that was found before helps. */
    private static void go(Simplespan x, int calls) {
        for (int i = 0; i < calls; i += 8) {
            x.open();
            x.bound(5, 6, 300 - i % 100, 0);
            x.isKept();
            x.isStrong();
            x.isWeak();
            x.level();
            x.choose();
            x.takeBack();
        }
    }
}
