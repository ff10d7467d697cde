import java.lang.management.ManagementFactory;

/**
 * Rule 12 of LANGUAGE.md: what a run of 512 calls makes is small. A run has room for some 7.3 million
 * fields and elements; the dearest ones stay under a twentieth of that, counted as bytes of ints.
 */
public final class MemoryTest {
    private static final long MOST_BYTES = 4 * 7_300_000L / 20;
    private static final int CALLS = 512;
    private static final com.sun.management.ThreadMXBean COUNTER =
        (com.sun.management.ThreadMXBean) ManagementFactory.getThreadMXBean();

    private interface Run {
        void on(BoilerLog house);
    }

    public static void main(String[] args) {
        check("the longest log", MemoryTest::fillTheLog);
        check("the fullest chat", MemoryTest::fillTheChat);
        check("nothing but tags", MemoryTest::fillTheTags);
        check("calls that look", MemoryTest::look);
        check("calls that throw", MemoryTest::beRefused);
        Check.end();
    }

    // A first run, that is not counted, loads what the machine itself needs.
    private static void check(String what, Run run) {
        run.on(new BoilerLog());
        long before = COUNTER.getThreadAllocatedBytes(Thread.currentThread().getId());
        run.on(new BoilerLog());
        long made = COUNTER.getThreadAllocatedBytes(Thread.currentThread().getId()) - before;
        Check.same(what + " made " + made + " bytes, which is little", true, made < MOST_BYTES);
    }

    private static void fillTheLog(BoilerLog house) {
        house.pipe(0, 0, BoilerLog.NONE);
        house.turn(0, 0, true);
        for (int valve = 1; valve < 6; valve++) {
            house.pipe(valve, valve == 1 ? BoilerLog.NONE : 1, valve == 1 ? 0 : BoilerLog.NONE);
            house.alarm(0, 5, false, valve, true);
            house.alarm(0, 5, true, valve, false);
        }
        for (int more = 0; more < 20; more++) {
            house.advance(100);
        }
        house.read(1);
        for (int call = 0; call < CALLS - 40; call++) {
            house.turn(1, 7, call % 2 == 0);
        }
        Check.same("a long log", true, house.entries() > 20000);
    }

    private static void fillTheChat(BoilerLog house) {
        for (int message = 0; message < 12; message++) {
            Check.post(house, 0, BoilerLog.NONE, "@8".repeat(20));
        }
        Check.same("12 messages", 12, house.messages());
    }

    private static void fillTheTags(BoilerLog house) {
        for (int call = 0; call < CALLS / 2; call++) {
            int tag = call < 40 ? house.hang(0, call % 8) : call % 40;
            if (house.valveOf(tag) >= 0 && call >= 40) {
                house.takeOff(0, tag);
            }
        }
        Check.same("40 tags", 80, house.entries());
    }

    private static void look(BoilerLog house) {
        Check.post(house, 0, BoilerLog.NONE, "look");
        for (int call = 0; call < CALLS; call += 8) {
            house.isOpenByLog(call % 8);
            house.tagsByLog(call % 8);
            house.obstacle(0, call % 8);
            house.canAct(call % 9);
            house.signAt(0, call % 5);
            house.signBack(0, call % 5);
            house.isWhole();
            house.taskOf(0);
        }
    }

    private static void beRefused(BoilerLog house) {
        int refused = 0;
        for (int call = 0; call < CALLS; call++) {
            try {
                house.turn(1, 0, true);
            } catch (IllegalStateException thrown) {
                refused++;
            }
        }
        Check.same("each was refused", CALLS, refused);
    }
}
